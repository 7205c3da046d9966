abbrev mX6_findAddresses : hM := (yX6_findAddresses, cX6_findAddresses, 10, none)
theorem dX6_findAddresses_140 : decode cX6_findAddresses 140 = .ok (.aload_n 0, 1) := by decide +kernel
theorem dX6_findAddresses_141 : decode cX6_findAddresses 141 = .ok (.getfield 21, 3) := by decide +kernel
theorem kX9_drop : h_ml mX9_drop 0 := ⟨h_t5 167 rfl rfl, h_t1 4 rfl rfl, ⟨by decide, by decide, by decide +kernel⟩, by decide⟩
theorem lX6_95 : Cond.methodLink RX6 95 mX9_drop.1 ∈ lw_g := h_t5 164 rfl rfl
theorem sX9_drop : Cond.instanceMethod mX9_drop.1 ∈ lw_g ∧ Cond.selects mX9_drop.1.cls mX9_drop.1 mX9_drop.1 ∈ lw_g := ⟨h_t5 165 rfl rfl, h_t5 166 rfl rfl⟩
theorem dX6_findAddresses_144 : decode cX6_findAddresses 144 = .ok (.invokevirtual 95, 3) := by decide +kernel
theorem dX6_findAddresses_147 : decode cX6_findAddresses 147 = .ok (.iconst 0, 1) := by decide +kernel
theorem dX6_findAddresses_148 : decode cX6_findAddresses 148 = .ok (.istore_n 3, 1) := by decide +kernel
theorem dX6_findAddresses_149 : decode cX6_findAddresses 149 = .ok (.goto 186, 3) := by decide +kernel
theorem dX6_findAddresses_335 : decode cX6_findAddresses 335 = .ok (.iinc 7 1, 3) := by decide +kernel
theorem dX6_findAddresses_338 : decode cX6_findAddresses 338 = .ok (.goto (-306), 3) := by decide +kernel
theorem dX6_findAddresses_101 : decode cX6_findAddresses 101 = .ok (.iload_n 3, 1) := by decide +kernel
theorem dX6_findAddresses_102 : decode cX6_findAddresses 102 = .ok (.iconst 1, 1) := by decide +kernel
theorem dX6_findAddresses_103 : decode cX6_findAddresses 103 = .ok (.if_icmp .eq 37, 3) := by decide +kernel
theorem dX6_findAddresses_106 : decode cX6_findAddresses 106 = .ok (.aload_n 0, 1) := by decide +kernel
theorem dX6_findAddresses_107 : decode cX6_findAddresses 107 = .ok (.getfield 21, 3) := by decide +kernel
theorem dX6_findAddresses_110 : decode cX6_findAddresses 110 = .ok (.getfield 82, 3) := by decide +kernel
theorem dX6_findAddresses_113 : decode cX6_findAddresses 113 = .ok (.aload_n 0, 1) := by decide +kernel
theorem dX6_findAddresses_114 : decode cX6_findAddresses 114 = .ok (.getfield 21, 3) := by decide +kernel
theorem fX6_85 : h_fl RX6 85 9 4 RX9 TX9 6 := ⟨rfl, by decide, inX9, h_t1 88 rfl rfl⟩
theorem dX6_findAddresses_117 : decode cX6_findAddresses 117 = .ok (.getfield 85, 3) := by decide +kernel
theorem dX6_findAddresses_120 : decode cX6_findAddresses 120 = .ok (.aload_n 0, 1) := by decide +kernel
theorem dX6_findAddresses_121 : decode cX6_findAddresses 121 = .ok (.getfield 21, 3) := by decide +kernel
theorem fX6_88 : h_fl RX6 88 9 5 RX9 TX9 6 := ⟨rfl, by decide, inX9, h_t1 92 rfl rfl⟩
theorem dX6_findAddresses_124 : decode cX6_findAddresses 124 = .ok (.getfield 88, 3) := by decide +kernel
theorem lX6_91 : Cond.methodLink RX6 91 mX9_isAddress.1 ∈ lw_g := h_t5 163 rfl rfl
theorem dX6_findAddresses_127 : decode cX6_findAddresses 127 = .ok (.invokestatic 91, 3) := by decide +kernel
theorem dX6_findAddresses_130 : decode cX6_findAddresses 130 = .ok (.ifCond .eq 10, 3) := by decide +kernel
theorem dX6_findAddresses_133 : decode cX6_findAddresses 133 = .ok (.aload_n 0, 1) := by decide +kernel
theorem dX6_findAddresses_134 : decode cX6_findAddresses 134 = .ok (.getfield 21, 3) := by decide +kernel
theorem dX6_findAddresses_137 : decode cX6_findAddresses 137 = .ok (.invokevirtual 72, 3) := by decide +kernel
theorem dX6_findAddresses_169 : decode cX6_findAddresses 169 = .ok (.iload 6, 2) := by decide +kernel
theorem dX6_findAddresses_171 : decode cX6_findAddresses 171 = .ok (.ifCond .ne 7, 3) := by decide +kernel
theorem dX6_findAddresses_178 : decode cX6_findAddresses 178 = .ok (.iconst 0, 1) := by decide +kernel
theorem dX6_findAddresses_179 : decode cX6_findAddresses 179 = .ok (.istore 6, 2) := by decide +kernel
theorem dX6_findAddresses_181 : decode cX6_findAddresses 181 = .ok (.goto 154, 3) := by decide +kernel
theorem dX6_findAddresses_174 : decode cX6_findAddresses 174 = .ok (.iconst 1, 1) := by decide +kernel
theorem dX6_findAddresses_175 : decode cX6_findAddresses 175 = .ok (.goto 4, 3) := by decide +kernel
theorem dX6_findAddresses_225 : decode cX6_findAddresses 225 = .ok (.iload 4, 2) := by decide +kernel
theorem dX6_findAddresses_227 : decode cX6_findAddresses 227 = .ok (.iload 8, 2) := by decide +kernel
theorem dX6_findAddresses_229 : decode cX6_findAddresses 229 = .ok (.bipush 40, 2) := by decide +kernel
theorem dX6_findAddresses_231 : decode cX6_findAddresses 231 = .ok (.if_icmp .ne 7, 3) := by decide +kernel
theorem dX6_findAddresses_238 : decode cX6_findAddresses 238 = .ok (.iconst (-1), 1) := by decide +kernel
theorem dX6_findAddresses_239 : decode cX6_findAddresses 239 = .ok (.iadd, 1) := by decide +kernel
theorem dX6_findAddresses_240 : decode cX6_findAddresses 240 = .ok (.istore 4, 2) := by decide +kernel
theorem dX6_findAddresses_242 : decode cX6_findAddresses 242 = .ok (.goto 93, 3) := by decide +kernel
theorem dX6_findAddresses_234 : decode cX6_findAddresses 234 = .ok (.iconst 1, 1) := by decide +kernel
theorem dX6_findAddresses_235 : decode cX6_findAddresses 235 = .ok (.goto 4, 3) := by decide +kernel
theorem dX6_findAddresses_319 : decode cX6_findAddresses 319 = .ok (.istore 5, 2) := by decide +kernel
theorem dX6_findAddresses_321 : decode cX6_findAddresses 321 = .ok (.iload_n 3, 1) := by decide +kernel
theorem dX6_findAddresses_322 : decode cX6_findAddresses 322 = .ok (.iconst 2, 1) := by decide +kernel
theorem dX6_findAddresses_323 : decode cX6_findAddresses 323 = .ok (.if_icmp .eq 12, 3) := by decide +kernel
theorem dX6_findAddresses_326 : decode cX6_findAddresses 326 = .ok (.aload_n 0, 1) := by decide +kernel
theorem dX6_findAddresses_327 : decode cX6_findAddresses 327 = .ok (.getfield 21, 3) := by decide +kernel
theorem dX6_findAddresses_330 : decode cX6_findAddresses 330 = .ok (.iload 8, 2) := by decide +kernel
theorem dX6_findAddresses_332 : decode cX6_findAddresses 332 = .ok (.invokevirtual 98, 3) := by decide +kernel
theorem dX6_findAddresses_307 : decode cX6_findAddresses 307 = .ok (.iload 8, 2) := by decide +kernel
theorem dX6_findAddresses_309 : decode cX6_findAddresses 309 = .ok (.bipush 34, 2) := by decide +kernel
theorem dX6_findAddresses_311 : decode cX6_findAddresses 311 = .ok (.if_icmp .ne 7, 3) := by decide +kernel
theorem dX6_findAddresses_318 : decode cX6_findAddresses 318 = .ok (.iconst 0, 1) := by decide +kernel
theorem dX6_findAddresses_314 : decode cX6_findAddresses 314 = .ok (.iconst 1, 1) := by decide +kernel
theorem dX6_findAddresses_315 : decode cX6_findAddresses 315 = .ok (.goto 4, 3) := by decide +kernel
theorem dX6_findAddresses_290 : decode cX6_findAddresses 290 = .ok (.iload 8, 2) := by decide +kernel
theorem dX6_findAddresses_292 : decode cX6_findAddresses 292 = .ok (.bipush 62, 2) := by decide +kernel
theorem dX6_findAddresses_294 : decode cX6_findAddresses 294 = .ok (.if_icmp .ne 13, 3) := by decide +kernel
theorem dX6_findAddresses_297 : decode cX6_findAddresses 297 = .ok (.iload_n 3, 1) := by decide +kernel
theorem dX6_findAddresses_298 : decode cX6_findAddresses 298 = .ok (.iconst 1, 1) := by decide +kernel
theorem dX6_findAddresses_299 : decode cX6_findAddresses 299 = .ok (.if_icmp .ne 8, 3) := by decide +kernel
theorem dX6_findAddresses_302 : decode cX6_findAddresses 302 = .ok (.iconst 2, 1) := by decide +kernel
theorem dX6_findAddresses_303 : decode cX6_findAddresses 303 = .ok (.istore_n 3, 1) := by decide +kernel
theorem dX6_findAddresses_304 : decode cX6_findAddresses 304 = .ok (.goto 31, 3) := by decide +kernel
theorem dX6_findAddresses_245 : decode cX6_findAddresses 245 = .ok (.iload 4, 2) := by decide +kernel
theorem dX6_findAddresses_247 : decode cX6_findAddresses 247 = .ok (.ifCond .gt 88, 3) := by decide +kernel
theorem dX6_findAddresses_250 : decode cX6_findAddresses 250 = .ok (.iload 8, 2) := by decide +kernel
theorem dX6_findAddresses_252 : decode cX6_findAddresses 252 = .ok (.bipush 32, 2) := by decide +kernel
theorem dX6_findAddresses_254 : decode cX6_findAddresses 254 = .ok (.if_icmp .eq 81, 3) := by decide +kernel
theorem dX6_findAddresses_257 : decode cX6_findAddresses 257 = .ok (.iload 8, 2) := by decide +kernel
theorem dX6_findAddresses_259 : decode cX6_findAddresses 259 = .ok (.bipush 9, 2) := by decide +kernel
theorem dX6_findAddresses_261 : decode cX6_findAddresses 261 = .ok (.if_icmp .ne 6, 3) := by decide +kernel
theorem dX6_findAddresses_267 : decode cX6_findAddresses 267 = .ok (.iload 8, 2) := by decide +kernel
theorem dX6_findAddresses_269 : decode cX6_findAddresses 269 = .ok (.bipush 60, 2) := by decide +kernel
theorem dX6_findAddresses_271 : decode cX6_findAddresses 271 = .ok (.if_icmp .ne 19, 3) := by decide +kernel
theorem dX6_findAddresses_274 : decode cX6_findAddresses 274 = .ok (.iload_n 3, 1) := by decide +kernel
theorem dX6_findAddresses_275 : decode cX6_findAddresses 275 = .ok (.ifCond .ne 15, 3) := by decide +kernel
theorem dX6_findAddresses_278 : decode cX6_findAddresses 278 = .ok (.iconst 1, 1) := by decide +kernel
theorem dX6_findAddresses_279 : decode cX6_findAddresses 279 = .ok (.istore_n 3, 1) := by decide +kernel
theorem dX6_findAddresses_280 : decode cX6_findAddresses 280 = .ok (.aload_n 0, 1) := by decide +kernel
theorem dX6_findAddresses_281 : decode cX6_findAddresses 281 = .ok (.getfield 21, 3) := by decide +kernel
theorem dX6_findAddresses_284 : decode cX6_findAddresses 284 = .ok (.invokevirtual 95, 3) := by decide +kernel
theorem dX6_findAddresses_287 : decode cX6_findAddresses 287 = .ok (.goto 48, 3) := by decide +kernel
theorem dX6_findAddresses_264 : decode cX6_findAddresses 264 = .ok (.goto 71, 3) := by decide +kernel
theorem dX6_findAddresses_184 : decode cX6_findAddresses 184 = .ok (.iload 5, 2) := by decide +kernel
theorem dX6_findAddresses_186 : decode cX6_findAddresses 186 = .ok (.ifCond .eq 20, 3) := by decide +kernel
theorem dX6_findAddresses_206 : decode cX6_findAddresses 206 = .ok (.iload 8, 2) := by decide +kernel
theorem dX6_findAddresses_208 : decode cX6_findAddresses 208 = .ok (.bipush 40, 2) := by decide +kernel
theorem dX6_findAddresses_210 : decode cX6_findAddresses 210 = .ok (.if_icmp .eq 15, 3) := by decide +kernel
theorem dX6_findAddresses_213 : decode cX6_findAddresses 213 = .ok (.iload 8, 2) := by decide +kernel
theorem dX6_findAddresses_215 : decode cX6_findAddresses 215 = .ok (.bipush 41, 2) := by decide +kernel
theorem dX6_findAddresses_217 : decode cX6_findAddresses 217 = .ok (.if_icmp .ne 28, 3) := by decide +kernel
theorem dX6_findAddresses_220 : decode cX6_findAddresses 220 = .ok (.iload 4, 2) := by decide +kernel
theorem dX6_findAddresses_222 : decode cX6_findAddresses 222 = .ok (.ifCond .le 23, 3) := by decide +kernel
theorem dX6_findAddresses_189 : decode cX6_findAddresses 189 = .ok (.iload 8, 2) := by decide +kernel
theorem dX6_findAddresses_191 : decode cX6_findAddresses 191 = .ok (.bipush 34, 2) := by decide +kernel
theorem dX6_findAddresses_193 : decode cX6_findAddresses 193 = .ok (.if_icmp .eq 7, 3) := by decide +kernel
theorem dX6_findAddresses_200 : decode cX6_findAddresses 200 = .ok (.iconst 0, 1) := by decide +kernel
theorem dX6_findAddresses_201 : decode cX6_findAddresses 201 = .ok (.istore 5, 2) := by decide +kernel
theorem dX6_findAddresses_203 : decode cX6_findAddresses 203 = .ok (.goto 132, 3) := by decide +kernel
theorem dX6_findAddresses_196 : decode cX6_findAddresses 196 = .ok (.iconst 1, 1) := by decide +kernel
theorem dX6_findAddresses_197 : decode cX6_findAddresses 197 = .ok (.goto 4, 3) := by decide +kernel
theorem dX6_findAddresses_152 : decode cX6_findAddresses 152 = .ok (.iload 9, 2) := by decide +kernel
theorem dX6_findAddresses_154 : decode cX6_findAddresses 154 = .ok (.ifCond .eq 30, 3) := by decide +kernel
theorem dX6_findAddresses_157 : decode cX6_findAddresses 157 = .ok (.iload 6, 2) := by decide +kernel
theorem dX6_findAddresses_159 : decode cX6_findAddresses 159 = .ok (.ifCond .ne 10, 3) := by decide +kernel
theorem dX6_findAddresses_162 : decode cX6_findAddresses 162 = .ok (.iload 8, 2) := by decide +kernel
theorem dX6_findAddresses_164 : decode cX6_findAddresses 164 = .ok (.bipush 92, 2) := by decide +kernel
theorem dX6_findAddresses_166 : decode cX6_findAddresses 166 = .ok (.if_icmp .ne 18, 3) := by decide +kernel
theorem dX6_findAddresses_76 : decode cX6_findAddresses 76 = .ok (.istore 9, 2) := by decide +kernel
theorem dX6_findAddresses_78 : decode cX6_findAddresses 78 = .ok (.iload 7, 2) := by decide +kernel
theorem dX6_findAddresses_80 : decode cX6_findAddresses 80 = .ok (.iload_n 2, 1) := by decide +kernel
theorem dX6_findAddresses_81 : decode cX6_findAddresses 81 = .ok (.if_icmp .eq 20, 3) := by decide +kernel
theorem dX6_findAddresses_84 : decode cX6_findAddresses 84 = .ok (.iload 8, 2) := by decide +kernel
theorem dX6_findAddresses_86 : decode cX6_findAddresses 86 = .ok (.bipush 44, 2) := by decide +kernel
theorem dX6_findAddresses_88 : decode cX6_findAddresses 88 = .ok (.if_icmp .ne 64, 3) := by decide +kernel
theorem dX6_findAddresses_91 : decode cX6_findAddresses 91 = .ok (.iload 9, 2) := by decide +kernel
theorem dX6_findAddresses_93 : decode cX6_findAddresses 93 = .ok (.ifCond .ne 59, 3) := by decide +kernel
theorem dX6_findAddresses_96 : decode cX6_findAddresses 96 = .ok (.iload_n 3, 1) := by decide +kernel
theorem dX6_findAddresses_97 : decode cX6_findAddresses 97 = .ok (.iconst 1, 1) := by decide +kernel
theorem dX6_findAddresses_98 : decode cX6_findAddresses 98 = .ok (.if_icmp .eq 54, 3) := by decide +kernel
theorem dX6_findAddresses_59 : decode cX6_findAddresses 59 = .ok (.istore 8, 2) := by decide +kernel
theorem dX6_findAddresses_61 : decode cX6_findAddresses 61 = .ok (.iload 5, 2) := by decide +kernel
theorem dX6_findAddresses_63 : decode cX6_findAddresses 63 = .ok (.ifCond .ne 8, 3) := by decide +kernel
theorem dX6_findAddresses_71 : decode cX6_findAddresses 71 = .ok (.iconst 1, 1) := by decide +kernel
theorem dX6_findAddresses_72 : decode cX6_findAddresses 72 = .ok (.goto 4, 3) := by decide +kernel
theorem dX6_findAddresses_66 : decode cX6_findAddresses 66 = .ok (.iload 4, 2) := by decide +kernel
theorem dX6_findAddresses_68 : decode cX6_findAddresses 68 = .ok (.ifCond .le 7, 3) := by decide +kernel
theorem dX6_findAddresses_75 : decode cX6_findAddresses 75 = .ok (.iconst 0, 1) := by decide +kernel
theorem dX6_findAddresses_32 : decode cX6_findAddresses 32 = .ok (.iload 7, 2) := by decide +kernel
theorem dX6_findAddresses_34 : decode cX6_findAddresses 34 = .ok (.iload_n 2, 1) := by decide +kernel
theorem dX6_findAddresses_35 : decode cX6_findAddresses 35 = .ok (.if_icmp .gt 306, 3) := by decide +kernel
theorem dX6_findAddresses_341 : decode cX6_findAddresses 341 = .ok (.return_, 1) := by decide +kernel
theorem dX6_findAddresses_38 : decode cX6_findAddresses 38 = .ok (.iload 7, 2) := by decide +kernel
theorem dX6_findAddresses_40 : decode cX6_findAddresses 40 = .ok (.iload_n 2, 1) := by decide +kernel
theorem dX6_findAddresses_41 : decode cX6_findAddresses 41 = .ok (.if_icmp .ge 16, 3) := by decide +kernel
theorem dX6_findAddresses_57 : decode cX6_findAddresses 57 = .ok (.bipush 44, 2) := by decide +kernel
theorem dX6_findAddresses_44 : decode cX6_findAddresses 44 = .ok (.aload_n 0, 1) := by decide +kernel
theorem dX6_findAddresses_45 : decode cX6_findAddresses 45 = .ok (.getfield 18, 3) := by decide +kernel
theorem dX6_findAddresses_48 : decode cX6_findAddresses 48 = .ok (.getfield 82, 3) := by decide +kernel
theorem dX6_findAddresses_51 : decode cX6_findAddresses 51 = .ok (.iload 7, 2) := by decide +kernel
theorem dX6_findAddresses_53 : decode cX6_findAddresses 53 = .ok (.baload, 1) := by decide +kernel
theorem dX6_findAddresses_54 : decode cX6_findAddresses 54 = .ok (.goto 5, 3) := by decide +kernel
theorem dX6_findAddresses_0 : decode cX6_findAddresses 0 = .ok (.aload_n 0, 1) := by decide +kernel
theorem dX6_findAddresses_1 : decode cX6_findAddresses 1 = .ok (.getfield 18, 3) := by decide +kernel
theorem dX6_findAddresses_4 : decode cX6_findAddresses 4 = .ok (.getfield 75, 3) := by decide +kernel
theorem dX6_findAddresses_7 : decode cX6_findAddresses 7 = .ok (.iload_n 1, 1) := by decide +kernel
theorem dX6_findAddresses_8 : decode cX6_findAddresses 8 = .ok (.iaload, 1) := by decide +kernel
theorem dX6_findAddresses_9 : decode cX6_findAddresses 9 = .ok (.istore_n 2, 1) := by decide +kernel
theorem dX6_findAddresses_10 : decode cX6_findAddresses 10 = .ok (.iconst 0, 1) := by decide +kernel
theorem dX6_findAddresses_11 : decode cX6_findAddresses 11 = .ok (.istore_n 3, 1) := by decide +kernel
theorem dX6_findAddresses_12 : decode cX6_findAddresses 12 = .ok (.iconst 0, 1) := by decide +kernel
theorem dX6_findAddresses_13 : decode cX6_findAddresses 13 = .ok (.istore 4, 2) := by decide +kernel
theorem dX6_findAddresses_15 : decode cX6_findAddresses 15 = .ok (.iconst 0, 1) := by decide +kernel
theorem dX6_findAddresses_16 : decode cX6_findAddresses 16 = .ok (.istore 5, 2) := by decide +kernel
theorem dX6_findAddresses_18 : decode cX6_findAddresses 18 = .ok (.iconst 0, 1) := by decide +kernel
theorem dX6_findAddresses_19 : decode cX6_findAddresses 19 = .ok (.istore 6, 2) := by decide +kernel
theorem dX6_findAddresses_21 : decode cX6_findAddresses 21 = .ok (.aload_n 0, 1) := by decide +kernel
theorem dX6_findAddresses_22 : decode cX6_findAddresses 22 = .ok (.getfield 18, 3) := by decide +kernel
theorem dX6_findAddresses_25 : decode cX6_findAddresses 25 = .ok (.getfield 79, 3) := by decide +kernel
theorem dX6_findAddresses_28 : decode cX6_findAddresses 28 = .ok (.iload_n 1, 1) := by decide +kernel
theorem dX6_findAddresses_29 : decode cX6_findAddresses 29 = .ok (.iaload, 1) := by decide +kernel
theorem dX6_findAddresses_30 : decode cX6_findAddresses 30 = .ok (.istore 7, 2) := by decide +kernel
def fb_X6_findAddresses_140 (K32 : Int32 → Int32 → Int32 → Bool → Bool → Int32 → uS → Option uS) (x2 : Int32) (x4 : Int32) (b5 : Bool) (b6 : Bool) (x7 : Int32) (s : uS) : Option uS := (fn_X9_drop 1062 s).bind fun s1 => K32 x2 0 x4 b5 b6 (x7 + 1) s1
set_option maxRecDepth 100000 in
set_option maxHeartbeats 4000000 in
theorem xb_X6_findAddresses_140 {l : Launch} {D : va_G} {A : Nat → ClassId} {B : Nat} {Z : State → Heap → Prop} {vF : Value} (uk : uK B Z vF) (un : uX A B Z) {K32 : Int32 → Int32 → Int32 → Bool → Bool → Int32 → uS → Option uS} (hK32 : ∀ (x2 : Int32) (x3 : Int32) (x4 : Int32) (b5 : Bool) (b6 : Bool) (x7 : Int32)  (s : uS) (r : uS), K32 x2 x3 x4 b5 b6 x7 s = some r → GU l D A B Z mX6_findAddresses 6 (r, none) s 32 [(0, .ref (B + 1053)), (2, .int x2), (3, .int x3), (4, .int x4), (5, .int (bI b5)), (6, .int (bI b6)), (7, .int x7)] []) {x2 : Int32} {x4 : Int32} {b5 : Bool} {b6 : Bool} {x7 : Int32} {s : uS} {r : uS}  (h : fb_X6_findAddresses_140 K32 x2 x4 b5 b6 x7 s = some r) : GU l D A B Z mX6_findAddresses 6 (r, none) s 140 [(0, .ref (B + 1053)), (2, .int x2), (4, .int x4), (5, .int (bI b5)), (6, .int (bI b6)), (7, .int x7)] [] := by
  unfold fb_X6_findAddresses_140 at h
  refine uu_aload_n dX6_findAddresses_140 rfl (List.mem_of_getElem? (i := 0) rfl) ?_
  refine uu_geta (ci := 6) (N := 6) fX6_21 (by decide) so_1053.is (by decide) (c := 1062) (by decide) dX6_findAddresses_141 ?_
  obtain ⟨s1, e2, h⟩ := uu_ob h
  refine uu_cv (d1 := 0) (k := 1062) (ci := 9) (T := TX9) (N := 6) (As := []) (st := []) (st' := []) (xc_X9_drop uk so_1062 e2) so_1062.is (by decide) rfl kX9_drop lX6_95 sX9_drop (by decide) (Nat.le_of_ble_eq_true rfl) dX6_findAddresses_144 rfl ?_
  refine uu_iconst (v := 0) dX6_findAddresses_147 (by decide) ?_
  refine uu_istore_n dX6_findAddresses_148 rfl (by decide) rfl ?_
  refine uu_goto (tgt := 335) dX6_findAddresses_149 (by decide) ?_
  refine uu_iinc (v := x7 + 1) dX6_findAddresses_335 (k := 6) rfl rfl (by decide) rfl ?_
  refine uu_goto (tgt := 32) dX6_findAddresses_338 (by decide) ?_
  refine uu_lv [2, 3, 1, 4, 5, 6, 0] (lv' := [(0, .ref (B + 1053)), (2, .int x2), (3, .int 0), (4, .int x4), (5, .int (bI b5)), (6, .int (bI b6)), (7, .int (x7 + 1))]) rfl ?_
  exact hK32 x2 0 x4 b5 b6 (x7 + 1) _ _ h
def fb_X6_findAddresses_101 (K32 : Int32 → Int32 → Int32 → Bool → Bool → Int32 → uS → Option uS) (x2 : Int32) (x3 : Int32) (x4 : Int32) (b5 : Bool) (b6 : Bool) (x7 : Int32) (s : uS) : Option uS := if x3 = 1 then (fb_X6_findAddresses_140 K32 x2 x4 b5 b6 x7 s) else ((fn_X9_isAddress 1063 (s.I 1062 4) (s.I 1062 5) s).bind fun v2 => if v2 = true then ((fn_X9_close 1062 s).bind fun s5 => fb_X6_findAddresses_140 K32 x2 x4 b5 b6 x7 s5) else (fb_X6_findAddresses_140 K32 x2 x4 b5 b6 x7 s))
set_option maxRecDepth 100000 in
set_option maxHeartbeats 4000000 in
theorem xb_X6_findAddresses_101 {l : Launch} {D : va_G} {A : Nat → ClassId} {B : Nat} {Z : State → Heap → Prop} {vF : Value} (uk : uK B Z vF) (un : uX A B Z) {K32 : Int32 → Int32 → Int32 → Bool → Bool → Int32 → uS → Option uS} (hK32 : ∀ (x2 : Int32) (x3 : Int32) (x4 : Int32) (b5 : Bool) (b6 : Bool) (x7 : Int32)  (s : uS) (r : uS), K32 x2 x3 x4 b5 b6 x7 s = some r → GU l D A B Z mX6_findAddresses 6 (r, none) s 32 [(0, .ref (B + 1053)), (2, .int x2), (3, .int x3), (4, .int x4), (5, .int (bI b5)), (6, .int (bI b6)), (7, .int x7)] []) {x2 : Int32} {x3 : Int32} {x4 : Int32} {b5 : Bool} {b6 : Bool} {x7 : Int32} {s : uS} {r : uS}  (h : fb_X6_findAddresses_101 K32 x2 x3 x4 b5 b6 x7 s = some r) : GU l D A B Z mX6_findAddresses 6 (r, none) s 101 [(0, .ref (B + 1053)), (2, .int x2), (3, .int x3), (4, .int x4), (5, .int (bI b5)), (6, .int (bI b6)), (7, .int x7)] [] := by
  unfold fb_X6_findAddresses_101 at h
  refine uu_iload_n dX6_findAddresses_101 rfl (List.mem_of_getElem? (i := 2) rfl) ?_
  refine uu_iconst (v := 1) dX6_findAddresses_102 (by decide) ?_
  refine uu_icmp_eq (tgt := 140) dX6_findAddresses_103 (by decide) (fun c1 => ?_) (fun c1 => ?_)
  · replace h := uu_pos c1 h
    refine uu_lv [0, 1, 3, 4, 5, 6] (lv' := [(0, .ref (B + 1053)), (2, .int x2), (4, .int x4), (5, .int (bI b5)), (6, .int (bI b6)), (7, .int x7)]) rfl ?_
    exact xb_X6_findAddresses_140 uk un hK32 h
  · replace h := uu_neg c1 h
    refine uu_aload_n dX6_findAddresses_106 rfl (List.mem_of_getElem? (i := 0) rfl) ?_
    refine uu_geta (ci := 6) (N := 6) fX6_21 (by decide) so_1053.is (by decide) (c := 1062) (by decide) dX6_findAddresses_107 ?_
    refine uu_getc (ci := 9) (N := 6) fX6_82 (by decide) so_1062.is (by decide) (c := 1) (by decide) (k2 := 1063) rfl dX6_findAddresses_110 ?_
    refine uu_aload_n dX6_findAddresses_113 rfl (List.mem_of_getElem? (i := 0) rfl) ?_
    refine uu_geta (ci := 6) (N := 6) fX6_21 (by decide) so_1053.is (by decide) (c := 1062) (by decide) dX6_findAddresses_114 ?_
    refine uu_geti (ci := 9) (N := 6) fX6_85 (by decide) so_1062.is (by decide) (by decide) dX6_findAddresses_117 ?_
    refine uu_aload_n dX6_findAddresses_120 rfl (List.mem_of_getElem? (i := 0) rfl) ?_
    refine uu_geta (ci := 6) (N := 6) fX6_21 (by decide) so_1053.is (by decide) (c := 1062) (by decide) dX6_findAddresses_121 ?_
    refine uu_geti (ci := 9) (N := 6) fX6_88 (by decide) so_1062.is (by decide) (by decide) dX6_findAddresses_124 ?_
    obtain ⟨v2, e3, h⟩ := uu_ob h
    refine uu_cs (d1 := 5) (As := [.ref (B + 1063), .int (s.I 1062 4), .int (s.I 1062 5)]) (st := []) (st' := [.int (bI v2)]) (xc_X9_isAddress uk un  e3) kX9_isAddress lX6_91 sX9_isAddress (by decide) (Nat.le_of_ble_eq_true rfl) dX6_findAddresses_127 rfl ?_
    refine uu_ifb_eq (tgt := 140) dX6_findAddresses_130 (by decide) (fun c4 => ?_) (fun c4 => ?_)
    · replace h := uu_neg c4 h
      refine uu_lv [0, 1, 3, 4, 5, 6] (lv' := [(0, .ref (B + 1053)), (2, .int x2), (4, .int x4), (5, .int (bI b5)), (6, .int (bI b6)), (7, .int x7)]) rfl ?_
      exact xb_X6_findAddresses_140 uk un hK32 h
    · replace h := uu_pos c4 h
      refine uu_aload_n dX6_findAddresses_133 rfl (List.mem_of_getElem? (i := 0) rfl) ?_
      refine uu_geta (ci := 6) (N := 6) fX6_21 (by decide) so_1053.is (by decide) (c := 1062) (by decide) dX6_findAddresses_134 ?_
      obtain ⟨s5, e6, h⟩ := uu_ob h
      refine uu_cv (d1 := 0) (k := 1062) (ci := 9) (T := TX9) (N := 6) (As := []) (st := []) (st' := []) (xc_X9_close uk so_1062 e6) so_1062.is (by decide) rfl kX9_close lX6_72 sX9_close (by decide) (Nat.le_of_ble_eq_true rfl) dX6_findAddresses_137 rfl ?_
      refine uu_lv [0, 1, 3, 4, 5, 6] (lv' := [(0, .ref (B + 1053)), (2, .int x2), (4, .int x4), (5, .int (bI b5)), (6, .int (bI b6)), (7, .int x7)]) rfl ?_
      exact xb_X6_findAddresses_140 uk un hK32 h
def fb_X6_findAddresses_169 (K32 : Int32 → Int32 → Int32 → Bool → Bool → Int32 → uS → Option uS) (x2 : Int32) (x3 : Int32) (x4 : Int32) (b5 : Bool) (b6 : Bool) (x7 : Int32) (s : uS) : Option uS := if b6 = true then (K32 x2 x3 x4 b5 false (x7 + 1) s) else (K32 x2 x3 x4 b5 true (x7 + 1) s)
set_option maxRecDepth 100000 in
set_option maxHeartbeats 4000000 in
theorem xb_X6_findAddresses_169 {l : Launch} {D : va_G} {A : Nat → ClassId} {B : Nat} {Z : State → Heap → Prop} {vF : Value} (uk : uK B Z vF) (un : uX A B Z) {K32 : Int32 → Int32 → Int32 → Bool → Bool → Int32 → uS → Option uS} (hK32 : ∀ (x2 : Int32) (x3 : Int32) (x4 : Int32) (b5 : Bool) (b6 : Bool) (x7 : Int32)  (s : uS) (r : uS), K32 x2 x3 x4 b5 b6 x7 s = some r → GU l D A B Z mX6_findAddresses 6 (r, none) s 32 [(0, .ref (B + 1053)), (2, .int x2), (3, .int x3), (4, .int x4), (5, .int (bI b5)), (6, .int (bI b6)), (7, .int x7)] []) {x2 : Int32} {x3 : Int32} {x4 : Int32} {b5 : Bool} {b6 : Bool} {x7 : Int32} {s : uS} {r : uS}  (h : fb_X6_findAddresses_169 K32 x2 x3 x4 b5 b6 x7 s = some r) : GU l D A B Z mX6_findAddresses 6 (r, none) s 169 [(0, .ref (B + 1053)), (2, .int x2), (3, .int x3), (4, .int x4), (5, .int (bI b5)), (6, .int (bI b6)), (7, .int x7)] [] := by
  unfold fb_X6_findAddresses_169 at h
  refine uu_iload dX6_findAddresses_169 (List.mem_of_getElem? (i := 5) rfl) ?_
  refine uu_ifb_ne (tgt := 178) dX6_findAddresses_171 (by decide) (fun c1 => ?_) (fun c1 => ?_)
  · replace h := uu_pos c1 h
    refine uu_iconst (v := 0) dX6_findAddresses_178 (by decide) ?_
    refine uu_istore dX6_findAddresses_179 (by decide) rfl ?_
    refine uu_goto (tgt := 335) dX6_findAddresses_181 (by decide) ?_
    refine uu_iinc (v := x7 + 1) dX6_findAddresses_335 (k := 6) rfl rfl (by decide) rfl ?_
    refine uu_goto (tgt := 32) dX6_findAddresses_338 (by decide) ?_
    refine uu_lv [2, 3, 4, 5, 6, 1, 0] (lv' := [(0, .ref (B + 1053)), (2, .int x2), (3, .int x3), (4, .int x4), (5, .int (bI b5)), (6, .int 0), (7, .int (x7 + 1))]) rfl ?_
    exact hK32 x2 x3 x4 b5 false (x7 + 1) _ _ h
  · replace h := uu_neg c1 h
    refine uu_iconst (v := 1) dX6_findAddresses_174 (by decide) ?_
    refine uu_goto (tgt := 179) dX6_findAddresses_175 (by decide) ?_
    refine uu_istore dX6_findAddresses_179 (by decide) rfl ?_
    refine uu_goto (tgt := 335) dX6_findAddresses_181 (by decide) ?_
    refine uu_iinc (v := x7 + 1) dX6_findAddresses_335 (k := 6) rfl rfl (by decide) rfl ?_
    refine uu_goto (tgt := 32) dX6_findAddresses_338 (by decide) ?_
    refine uu_lv [2, 3, 4, 5, 6, 1, 0] (lv' := [(0, .ref (B + 1053)), (2, .int x2), (3, .int x3), (4, .int x4), (5, .int (bI b5)), (6, .int 1), (7, .int (x7 + 1))]) rfl ?_
    exact hK32 x2 x3 x4 b5 true (x7 + 1) _ _ h
def fb_X6_findAddresses_225 (K32 : Int32 → Int32 → Int32 → Bool → Bool → Int32 → uS → Option uS) (x2 : Int32) (x3 : Int32) (x4 : Int32) (b5 : Bool) (b6 : Bool) (x7 : Int32) (x8 : Int32) (s : uS) : Option uS := if x8 = 40 then (K32 x2 x3 (x4 + 1) b5 b6 (x7 + 1) s) else (K32 x2 x3 (x4 + (-1)) b5 b6 (x7 + 1) s)
set_option maxRecDepth 100000 in
set_option maxHeartbeats 4000000 in
theorem xb_X6_findAddresses_225 {l : Launch} {D : va_G} {A : Nat → ClassId} {B : Nat} {Z : State → Heap → Prop} {vF : Value} (uk : uK B Z vF) (un : uX A B Z) {K32 : Int32 → Int32 → Int32 → Bool → Bool → Int32 → uS → Option uS} (hK32 : ∀ (x2 : Int32) (x3 : Int32) (x4 : Int32) (b5 : Bool) (b6 : Bool) (x7 : Int32)  (s : uS) (r : uS), K32 x2 x3 x4 b5 b6 x7 s = some r → GU l D A B Z mX6_findAddresses 6 (r, none) s 32 [(0, .ref (B + 1053)), (2, .int x2), (3, .int x3), (4, .int x4), (5, .int (bI b5)), (6, .int (bI b6)), (7, .int x7)] []) {x2 : Int32} {x3 : Int32} {x4 : Int32} {b5 : Bool} {b6 : Bool} {x7 : Int32} {x8 : Int32} {s : uS} {r : uS}  (h : fb_X6_findAddresses_225 K32 x2 x3 x4 b5 b6 x7 x8 s = some r) : GU l D A B Z mX6_findAddresses 6 (r, none) s 225 [(0, .ref (B + 1053)), (2, .int x2), (3, .int x3), (4, .int x4), (5, .int (bI b5)), (6, .int (bI b6)), (7, .int x7), (8, .int x8)] [] := by
  unfold fb_X6_findAddresses_225 at h
  refine uu_iload dX6_findAddresses_225 (List.mem_of_getElem? (i := 3) rfl) ?_
  refine uu_iload dX6_findAddresses_227 (List.mem_of_getElem? (i := 7) rfl) ?_
  refine uu_bipush (v := 40) dX6_findAddresses_229 (by decide) ?_
  refine uu_icmp_ne (tgt := 238) dX6_findAddresses_231 (by decide) (fun c1 => ?_) (fun c1 => ?_)
  · replace h := uu_neg c1 h
    refine uu_iconst (v := -1) dX6_findAddresses_238 (by decide) ?_
    refine uu_iadd dX6_findAddresses_239 ?_
    refine uu_istore dX6_findAddresses_240 (by decide) rfl ?_
    refine uu_goto (tgt := 335) dX6_findAddresses_242 (by decide) ?_
    refine uu_iinc (v := x7 + 1) dX6_findAddresses_335 (k := 6) rfl rfl (by decide) rfl ?_
    refine uu_goto (tgt := 32) dX6_findAddresses_338 (by decide) ?_
    refine uu_lv [2, 3, 4, 1, 5, 6, 0] (lv' := [(0, .ref (B + 1053)), (2, .int x2), (3, .int x3), (4, .int (x4 + (-1))), (5, .int (bI b5)), (6, .int (bI b6)), (7, .int (x7 + 1))]) rfl ?_
    exact hK32 x2 x3 (x4 + (-1)) b5 b6 (x7 + 1) _ _ h
  · replace h := uu_pos c1 h
    refine uu_iconst (v := 1) dX6_findAddresses_234 (by decide) ?_
    refine uu_goto (tgt := 239) dX6_findAddresses_235 (by decide) ?_
    refine uu_iadd dX6_findAddresses_239 ?_
    refine uu_istore dX6_findAddresses_240 (by decide) rfl ?_
    refine uu_goto (tgt := 335) dX6_findAddresses_242 (by decide) ?_
    refine uu_iinc (v := x7 + 1) dX6_findAddresses_335 (k := 6) rfl rfl (by decide) rfl ?_
    refine uu_goto (tgt := 32) dX6_findAddresses_338 (by decide) ?_
    refine uu_lv [2, 3, 4, 1, 5, 6, 0] (lv' := [(0, .ref (B + 1053)), (2, .int x2), (3, .int x3), (4, .int (x4 + 1)), (5, .int (bI b5)), (6, .int (bI b6)), (7, .int (x7 + 1))]) rfl ?_
    exact hK32 x2 x3 (x4 + 1) b5 b6 (x7 + 1) _ _ h
def fb_X6_findAddresses_319 (K32 : Int32 → Int32 → Int32 → Bool → Bool → Int32 → uS → Option uS) (x2 : Int32) (x3 : Int32) (x4 : Int32) (b6 : Bool) (x7 : Int32) (x8 : Int32) (bs0 : Bool) (s : uS) : Option uS := if x3 = 2 then (K32 x2 x3 x4 bs0 b6 (x7 + 1) s) else ((fn_X9_put 1062 x8 s).bind fun s2 => K32 x2 x3 x4 bs0 b6 (x7 + 1) s2)
set_option maxRecDepth 100000 in
set_option maxHeartbeats 4000000 in
theorem xb_X6_findAddresses_319 {l : Launch} {D : va_G} {A : Nat → ClassId} {B : Nat} {Z : State → Heap → Prop} {vF : Value} (uk : uK B Z vF) (un : uX A B Z) {K32 : Int32 → Int32 → Int32 → Bool → Bool → Int32 → uS → Option uS} (hK32 : ∀ (x2 : Int32) (x3 : Int32) (x4 : Int32) (b5 : Bool) (b6 : Bool) (x7 : Int32)  (s : uS) (r : uS), K32 x2 x3 x4 b5 b6 x7 s = some r → GU l D A B Z mX6_findAddresses 6 (r, none) s 32 [(0, .ref (B + 1053)), (2, .int x2), (3, .int x3), (4, .int x4), (5, .int (bI b5)), (6, .int (bI b6)), (7, .int x7)] []) {x2 : Int32} {x3 : Int32} {x4 : Int32} {b6 : Bool} {x7 : Int32} {x8 : Int32} {bs0 : Bool} {s : uS} {r : uS}  (h : fb_X6_findAddresses_319 K32 x2 x3 x4 b6 x7 x8 bs0 s = some r) : GU l D A B Z mX6_findAddresses 6 (r, none) s 319 [(0, .ref (B + 1053)), (2, .int x2), (3, .int x3), (4, .int x4), (6, .int (bI b6)), (7, .int x7), (8, .int x8)] [.int (bI bs0)] := by
  unfold fb_X6_findAddresses_319 at h
  refine uu_istore dX6_findAddresses_319 (by decide) rfl ?_
  refine uu_iload_n dX6_findAddresses_321 rfl (List.mem_of_getElem? (i := 3) rfl) ?_
  refine uu_iconst (v := 2) dX6_findAddresses_322 (by decide) ?_
  refine uu_icmp_eq (tgt := 335) dX6_findAddresses_323 (by decide) (fun c1 => ?_) (fun c1 => ?_)
  · replace h := uu_pos c1 h
    refine uu_iinc (v := x7 + 1) dX6_findAddresses_335 (k := 6) rfl rfl (by decide) rfl ?_
    refine uu_goto (tgt := 32) dX6_findAddresses_338 (by decide) ?_
    refine uu_lv [2, 3, 4, 5, 1, 6, 0] (lv' := [(0, .ref (B + 1053)), (2, .int x2), (3, .int x3), (4, .int x4), (5, .int (bI bs0)), (6, .int (bI b6)), (7, .int (x7 + 1))]) rfl ?_
    exact hK32 x2 x3 x4 bs0 b6 (x7 + 1) _ _ h
  · replace h := uu_neg c1 h
    refine uu_aload_n dX6_findAddresses_326 rfl (List.mem_of_getElem? (i := 1) rfl) ?_
    refine uu_geta (ci := 6) (N := 6) fX6_21 (by decide) so_1053.is (by decide) (c := 1062) (by decide) dX6_findAddresses_327 ?_
    refine uu_iload dX6_findAddresses_330 (List.mem_of_getElem? (i := 7) rfl) ?_
    obtain ⟨s2, e3, h⟩ := uu_ob h
    refine uu_cv (d1 := 0) (k := 1062) (ci := 9) (T := TX9) (N := 6) (As := [.int x8]) (st := []) (st' := []) (xc_X9_put uk so_1062 e3) so_1062.is (by decide) rfl kX9_put lX6_98 sX9_put (by decide) (Nat.le_of_ble_eq_true rfl) dX6_findAddresses_332 rfl ?_
    refine uu_iinc (v := x7 + 1) dX6_findAddresses_335 (k := 6) rfl rfl (by decide) rfl ?_
    refine uu_goto (tgt := 32) dX6_findAddresses_338 (by decide) ?_
    refine uu_lv [2, 3, 4, 5, 1, 6, 0] (lv' := [(0, .ref (B + 1053)), (2, .int x2), (3, .int x3), (4, .int x4), (5, .int (bI bs0)), (6, .int (bI b6)), (7, .int (x7 + 1))]) rfl ?_
    exact hK32 x2 x3 x4 bs0 b6 (x7 + 1) _ _ h
def fb_X6_findAddresses_307 (K32 : Int32 → Int32 → Int32 → Bool → Bool → Int32 → uS → Option uS) (x2 : Int32) (x3 : Int32) (x4 : Int32) (b6 : Bool) (x7 : Int32) (x8 : Int32) (s : uS) : Option uS := if x8 = 34 then (fb_X6_findAddresses_319 K32 x2 x3 x4 b6 x7 x8 true s) else (fb_X6_findAddresses_319 K32 x2 x3 x4 b6 x7 x8 false s)
set_option maxRecDepth 100000 in
set_option maxHeartbeats 4000000 in
theorem xb_X6_findAddresses_307 {l : Launch} {D : va_G} {A : Nat → ClassId} {B : Nat} {Z : State → Heap → Prop} {vF : Value} (uk : uK B Z vF) (un : uX A B Z) {K32 : Int32 → Int32 → Int32 → Bool → Bool → Int32 → uS → Option uS} (hK32 : ∀ (x2 : Int32) (x3 : Int32) (x4 : Int32) (b5 : Bool) (b6 : Bool) (x7 : Int32)  (s : uS) (r : uS), K32 x2 x3 x4 b5 b6 x7 s = some r → GU l D A B Z mX6_findAddresses 6 (r, none) s 32 [(0, .ref (B + 1053)), (2, .int x2), (3, .int x3), (4, .int x4), (5, .int (bI b5)), (6, .int (bI b6)), (7, .int x7)] []) {x2 : Int32} {x3 : Int32} {x4 : Int32} {b6 : Bool} {x7 : Int32} {x8 : Int32} {s : uS} {r : uS}  (h : fb_X6_findAddresses_307 K32 x2 x3 x4 b6 x7 x8 s = some r) : GU l D A B Z mX6_findAddresses 6 (r, none) s 307 [(0, .ref (B + 1053)), (2, .int x2), (3, .int x3), (4, .int x4), (6, .int (bI b6)), (7, .int x7), (8, .int x8)] [] := by
  unfold fb_X6_findAddresses_307 at h
  refine uu_iload dX6_findAddresses_307 (List.mem_of_getElem? (i := 6) rfl) ?_
  refine uu_bipush (v := 34) dX6_findAddresses_309 (by decide) ?_
  refine uu_icmp_ne (tgt := 318) dX6_findAddresses_311 (by decide) (fun c1 => ?_) (fun c1 => ?_)
  · replace h := uu_neg c1 h
    refine uu_iconst (v := 0) dX6_findAddresses_318 (by decide) ?_
    exact xb_X6_findAddresses_319 uk un hK32 h
  · replace h := uu_pos c1 h
    refine uu_iconst (v := 1) dX6_findAddresses_314 (by decide) ?_
    refine uu_goto (tgt := 319) dX6_findAddresses_315 (by decide) ?_
    exact xb_X6_findAddresses_319 uk un hK32 h
def fb_X6_findAddresses_290 (K32 : Int32 → Int32 → Int32 → Bool → Bool → Int32 → uS → Option uS) (x2 : Int32) (x3 : Int32) (x4 : Int32) (b5 : Bool) (b6 : Bool) (x7 : Int32) (x8 : Int32) (s : uS) : Option uS := if x8 = 62 then (if x3 = 1 then (K32 x2 2 x4 b5 b6 (x7 + 1) s) else (fb_X6_findAddresses_307 K32 x2 x3 x4 b6 x7 x8 s)) else (fb_X6_findAddresses_307 K32 x2 x3 x4 b6 x7 x8 s)
set_option maxRecDepth 100000 in
set_option maxHeartbeats 4000000 in
theorem xb_X6_findAddresses_290 {l : Launch} {D : va_G} {A : Nat → ClassId} {B : Nat} {Z : State → Heap → Prop} {vF : Value} (uk : uK B Z vF) (un : uX A B Z) {K32 : Int32 → Int32 → Int32 → Bool → Bool → Int32 → uS → Option uS} (hK32 : ∀ (x2 : Int32) (x3 : Int32) (x4 : Int32) (b5 : Bool) (b6 : Bool) (x7 : Int32)  (s : uS) (r : uS), K32 x2 x3 x4 b5 b6 x7 s = some r → GU l D A B Z mX6_findAddresses 6 (r, none) s 32 [(0, .ref (B + 1053)), (2, .int x2), (3, .int x3), (4, .int x4), (5, .int (bI b5)), (6, .int (bI b6)), (7, .int x7)] []) {x2 : Int32} {x3 : Int32} {x4 : Int32} {b5 : Bool} {b6 : Bool} {x7 : Int32} {x8 : Int32} {s : uS} {r : uS}  (h : fb_X6_findAddresses_290 K32 x2 x3 x4 b5 b6 x7 x8 s = some r) : GU l D A B Z mX6_findAddresses 6 (r, none) s 290 [(0, .ref (B + 1053)), (2, .int x2), (3, .int x3), (4, .int x4), (5, .int (bI b5)), (6, .int (bI b6)), (7, .int x7), (8, .int x8)] [] := by
  unfold fb_X6_findAddresses_290 at h
  refine uu_iload dX6_findAddresses_290 (List.mem_of_getElem? (i := 7) rfl) ?_
  refine uu_bipush (v := 62) dX6_findAddresses_292 (by decide) ?_
  refine uu_icmp_ne (tgt := 307) dX6_findAddresses_294 (by decide) (fun c1 => ?_) (fun c1 => ?_)
  · replace h := uu_neg c1 h
    refine uu_lv [0, 1, 2, 3, 5, 6, 7] (lv' := [(0, .ref (B + 1053)), (2, .int x2), (3, .int x3), (4, .int x4), (6, .int (bI b6)), (7, .int x7), (8, .int x8)]) rfl ?_
    exact xb_X6_findAddresses_307 uk un hK32 h
  · replace h := uu_pos c1 h
    refine uu_iload_n dX6_findAddresses_297 rfl (List.mem_of_getElem? (i := 2) rfl) ?_
    refine uu_iconst (v := 1) dX6_findAddresses_298 (by decide) ?_
    refine uu_icmp_ne (tgt := 307) dX6_findAddresses_299 (by decide) (fun c2 => ?_) (fun c2 => ?_)
    · replace h := uu_neg c2 h
      refine uu_lv [0, 1, 2, 3, 5, 6, 7] (lv' := [(0, .ref (B + 1053)), (2, .int x2), (3, .int x3), (4, .int x4), (6, .int (bI b6)), (7, .int x7), (8, .int x8)]) rfl ?_
      exact xb_X6_findAddresses_307 uk un hK32 h
    · replace h := uu_pos c2 h
      refine uu_iconst (v := 2) dX6_findAddresses_302 (by decide) ?_
      refine uu_istore_n dX6_findAddresses_303 rfl (by decide) rfl ?_
      refine uu_goto (tgt := 335) dX6_findAddresses_304 (by decide) ?_
      refine uu_iinc (v := x7 + 1) dX6_findAddresses_335 (k := 6) rfl rfl (by decide) rfl ?_
      refine uu_goto (tgt := 32) dX6_findAddresses_338 (by decide) ?_
      refine uu_lv [2, 3, 1, 4, 5, 6, 0] (lv' := [(0, .ref (B + 1053)), (2, .int x2), (3, .int 2), (4, .int x4), (5, .int (bI b5)), (6, .int (bI b6)), (7, .int (x7 + 1))]) rfl ?_
      exact hK32 x2 2 x4 b5 b6 (x7 + 1) _ _ h
def fb_X6_findAddresses_245 (K32 : Int32 → Int32 → Int32 → Bool → Bool → Int32 → uS → Option uS) (x2 : Int32) (x3 : Int32) (x4 : Int32) (b5 : Bool) (b6 : Bool) (x7 : Int32) (x8 : Int32) (s : uS) : Option uS := if 0 < x4 then (K32 x2 x3 x4 b5 b6 (x7 + 1) s) else (if x8 = 32 then (K32 x2 x3 x4 b5 b6 (x7 + 1) s) else (if x8 = 9 then (K32 x2 x3 x4 b5 b6 (x7 + 1) s) else (if x8 = 60 then (if x3 = 0 then ((fn_X9_drop 1062 s).bind fun s6 => K32 x2 1 x4 b5 b6 (x7 + 1) s6) else (fb_X6_findAddresses_290 K32 x2 x3 x4 b5 b6 x7 x8 s)) else (fb_X6_findAddresses_290 K32 x2 x3 x4 b5 b6 x7 x8 s))))
set_option maxRecDepth 100000 in
set_option maxHeartbeats 4000000 in
theorem xb_X6_findAddresses_245 {l : Launch} {D : va_G} {A : Nat → ClassId} {B : Nat} {Z : State → Heap → Prop} {vF : Value} (uk : uK B Z vF) (un : uX A B Z) {K32 : Int32 → Int32 → Int32 → Bool → Bool → Int32 → uS → Option uS} (hK32 : ∀ (x2 : Int32) (x3 : Int32) (x4 : Int32) (b5 : Bool) (b6 : Bool) (x7 : Int32)  (s : uS) (r : uS), K32 x2 x3 x4 b5 b6 x7 s = some r → GU l D A B Z mX6_findAddresses 6 (r, none) s 32 [(0, .ref (B + 1053)), (2, .int x2), (3, .int x3), (4, .int x4), (5, .int (bI b5)), (6, .int (bI b6)), (7, .int x7)] []) {x2 : Int32} {x3 : Int32} {x4 : Int32} {b5 : Bool} {b6 : Bool} {x7 : Int32} {x8 : Int32} {s : uS} {r : uS}  (h : fb_X6_findAddresses_245 K32 x2 x3 x4 b5 b6 x7 x8 s = some r) : GU l D A B Z mX6_findAddresses 6 (r, none) s 245 [(0, .ref (B + 1053)), (2, .int x2), (3, .int x3), (4, .int x4), (5, .int (bI b5)), (6, .int (bI b6)), (7, .int x7), (8, .int x8)] [] := by
  unfold fb_X6_findAddresses_245 at h
  refine uu_iload dX6_findAddresses_245 (List.mem_of_getElem? (i := 3) rfl) ?_
  refine uu_if_gt (tgt := 335) dX6_findAddresses_247 (by decide) (fun c1 => ?_) (fun c1 => ?_)
  · replace h := uu_pos c1 h
    refine uu_iinc (v := x7 + 1) dX6_findAddresses_335 (k := 6) rfl rfl (by decide) rfl ?_
    refine uu_goto (tgt := 32) dX6_findAddresses_338 (by decide) ?_
    refine uu_lv [1, 2, 3, 4, 5, 6, 0] (lv' := [(0, .ref (B + 1053)), (2, .int x2), (3, .int x3), (4, .int x4), (5, .int (bI b5)), (6, .int (bI b6)), (7, .int (x7 + 1))]) rfl ?_
    exact hK32 x2 x3 x4 b5 b6 (x7 + 1) _ _ h
  · replace h := uu_neg c1 h
    refine uu_iload dX6_findAddresses_250 (List.mem_of_getElem? (i := 7) rfl) ?_
    refine uu_bipush (v := 32) dX6_findAddresses_252 (by decide) ?_
    refine uu_icmp_eq (tgt := 335) dX6_findAddresses_254 (by decide) (fun c2 => ?_) (fun c2 => ?_)
    · replace h := uu_pos c2 h
      refine uu_iinc (v := x7 + 1) dX6_findAddresses_335 (k := 6) rfl rfl (by decide) rfl ?_
      refine uu_goto (tgt := 32) dX6_findAddresses_338 (by decide) ?_
      refine uu_lv [1, 2, 3, 4, 5, 6, 0] (lv' := [(0, .ref (B + 1053)), (2, .int x2), (3, .int x3), (4, .int x4), (5, .int (bI b5)), (6, .int (bI b6)), (7, .int (x7 + 1))]) rfl ?_
      exact hK32 x2 x3 x4 b5 b6 (x7 + 1) _ _ h
    · replace h := uu_neg c2 h
      refine uu_iload dX6_findAddresses_257 (List.mem_of_getElem? (i := 7) rfl) ?_
      refine uu_bipush (v := 9) dX6_findAddresses_259 (by decide) ?_
      refine uu_icmp_ne (tgt := 267) dX6_findAddresses_261 (by decide) (fun c3 => ?_) (fun c3 => ?_)
      · replace h := uu_neg c3 h
        refine uu_iload dX6_findAddresses_267 (List.mem_of_getElem? (i := 7) rfl) ?_
        refine uu_bipush (v := 60) dX6_findAddresses_269 (by decide) ?_
        refine uu_icmp_ne (tgt := 290) dX6_findAddresses_271 (by decide) (fun c4 => ?_) (fun c4 => ?_)
        · replace h := uu_neg c4 h
          exact xb_X6_findAddresses_290 uk un hK32 h
        · replace h := uu_pos c4 h
          refine uu_iload_n dX6_findAddresses_274 rfl (List.mem_of_getElem? (i := 2) rfl) ?_
          refine uu_if_ne (tgt := 290) dX6_findAddresses_275 (by decide) (fun c5 => ?_) (fun c5 => ?_)
          · replace h := uu_neg c5 h
            exact xb_X6_findAddresses_290 uk un hK32 h
          · replace h := uu_pos c5 h
            refine uu_iconst (v := 1) dX6_findAddresses_278 (by decide) ?_
            refine uu_istore_n dX6_findAddresses_279 rfl (by decide) rfl ?_
            refine uu_aload_n dX6_findAddresses_280 rfl (List.mem_of_getElem? (i := 1) rfl) ?_
            refine uu_geta (ci := 6) (N := 6) fX6_21 (by decide) so_1053.is (by decide) (c := 1062) (by decide) dX6_findAddresses_281 ?_
            obtain ⟨s6, e7, h⟩ := uu_ob h
            refine uu_cv (d1 := 0) (k := 1062) (ci := 9) (T := TX9) (N := 6) (As := []) (st := []) (st' := []) (xc_X9_drop uk so_1062 e7) so_1062.is (by decide) rfl kX9_drop lX6_95 sX9_drop (by decide) (Nat.le_of_ble_eq_true rfl) dX6_findAddresses_284 rfl ?_
            refine uu_goto (tgt := 335) dX6_findAddresses_287 (by decide) ?_
            refine uu_iinc (v := x7 + 1) dX6_findAddresses_335 (k := 6) rfl rfl (by decide) rfl ?_
            refine uu_goto (tgt := 32) dX6_findAddresses_338 (by decide) ?_
            refine uu_lv [2, 3, 1, 4, 5, 6, 0] (lv' := [(0, .ref (B + 1053)), (2, .int x2), (3, .int 1), (4, .int x4), (5, .int (bI b5)), (6, .int (bI b6)), (7, .int (x7 + 1))]) rfl ?_
            exact hK32 x2 1 x4 b5 b6 (x7 + 1) _ _ h
      · replace h := uu_pos c3 h
        refine uu_goto (tgt := 335) dX6_findAddresses_264 (by decide) ?_
        refine uu_iinc (v := x7 + 1) dX6_findAddresses_335 (k := 6) rfl rfl (by decide) rfl ?_
        refine uu_goto (tgt := 32) dX6_findAddresses_338 (by decide) ?_
        refine uu_lv [1, 2, 3, 4, 5, 6, 0] (lv' := [(0, .ref (B + 1053)), (2, .int x2), (3, .int x3), (4, .int x4), (5, .int (bI b5)), (6, .int (bI b6)), (7, .int (x7 + 1))]) rfl ?_
        exact hK32 x2 x3 x4 b5 b6 (x7 + 1) _ _ h
def fb_X6_findAddresses_184 (K32 : Int32 → Int32 → Int32 → Bool → Bool → Int32 → uS → Option uS) (x2 : Int32) (x3 : Int32) (x4 : Int32) (b5 : Bool) (b6 : Bool) (x7 : Int32) (x8 : Int32) (s : uS) : Option uS := if b5 = true then (if x8 = 34 then (K32 x2 x3 x4 false b6 (x7 + 1) s) else (K32 x2 x3 x4 true b6 (x7 + 1) s)) else (if x8 = 40 then (fb_X6_findAddresses_225 K32 x2 x3 x4 b5 b6 x7 x8 s) else (if x8 = 41 then (if x4 ≤ 0 then (fb_X6_findAddresses_245 K32 x2 x3 x4 b5 b6 x7 x8 s) else (fb_X6_findAddresses_225 K32 x2 x3 x4 b5 b6 x7 x8 s)) else (fb_X6_findAddresses_245 K32 x2 x3 x4 b5 b6 x7 x8 s)))
set_option maxRecDepth 100000 in
set_option maxHeartbeats 4000000 in
theorem xb_X6_findAddresses_184 {l : Launch} {D : va_G} {A : Nat → ClassId} {B : Nat} {Z : State → Heap → Prop} {vF : Value} (uk : uK B Z vF) (un : uX A B Z) {K32 : Int32 → Int32 → Int32 → Bool → Bool → Int32 → uS → Option uS} (hK32 : ∀ (x2 : Int32) (x3 : Int32) (x4 : Int32) (b5 : Bool) (b6 : Bool) (x7 : Int32)  (s : uS) (r : uS), K32 x2 x3 x4 b5 b6 x7 s = some r → GU l D A B Z mX6_findAddresses 6 (r, none) s 32 [(0, .ref (B + 1053)), (2, .int x2), (3, .int x3), (4, .int x4), (5, .int (bI b5)), (6, .int (bI b6)), (7, .int x7)] []) {x2 : Int32} {x3 : Int32} {x4 : Int32} {b5 : Bool} {b6 : Bool} {x7 : Int32} {x8 : Int32} {s : uS} {r : uS}  (h : fb_X6_findAddresses_184 K32 x2 x3 x4 b5 b6 x7 x8 s = some r) : GU l D A B Z mX6_findAddresses 6 (r, none) s 184 [(0, .ref (B + 1053)), (2, .int x2), (3, .int x3), (4, .int x4), (5, .int (bI b5)), (6, .int (bI b6)), (7, .int x7), (8, .int x8)] [] := by
  unfold fb_X6_findAddresses_184 at h
  refine uu_iload dX6_findAddresses_184 (List.mem_of_getElem? (i := 4) rfl) ?_
  refine uu_ifb_eq (tgt := 206) dX6_findAddresses_186 (by decide) (fun c1 => ?_) (fun c1 => ?_)
  · replace h := uu_neg c1 h
    refine uu_iload dX6_findAddresses_206 (List.mem_of_getElem? (i := 7) rfl) ?_
    refine uu_bipush (v := 40) dX6_findAddresses_208 (by decide) ?_
    refine uu_icmp_eq (tgt := 225) dX6_findAddresses_210 (by decide) (fun c2 => ?_) (fun c2 => ?_)
    · replace h := uu_pos c2 h
      exact xb_X6_findAddresses_225 uk un hK32 h
    · replace h := uu_neg c2 h
      refine uu_iload dX6_findAddresses_213 (List.mem_of_getElem? (i := 7) rfl) ?_
      refine uu_bipush (v := 41) dX6_findAddresses_215 (by decide) ?_
      refine uu_icmp_ne (tgt := 245) dX6_findAddresses_217 (by decide) (fun c3 => ?_) (fun c3 => ?_)
      · replace h := uu_neg c3 h
        exact xb_X6_findAddresses_245 uk un hK32 h
      · replace h := uu_pos c3 h
        refine uu_iload dX6_findAddresses_220 (List.mem_of_getElem? (i := 3) rfl) ?_
        refine uu_if_le (tgt := 245) dX6_findAddresses_222 (by decide) (fun c4 => ?_) (fun c4 => ?_)
        · replace h := uu_pos c4 h
          exact xb_X6_findAddresses_245 uk un hK32 h
        · replace h := uu_neg c4 h
          exact xb_X6_findAddresses_225 uk un hK32 h
  · replace h := uu_pos c1 h
    refine uu_iload dX6_findAddresses_189 (List.mem_of_getElem? (i := 7) rfl) ?_
    refine uu_bipush (v := 34) dX6_findAddresses_191 (by decide) ?_
    refine uu_icmp_eq (tgt := 200) dX6_findAddresses_193 (by decide) (fun c5 => ?_) (fun c5 => ?_)
    · replace h := uu_pos c5 h
      refine uu_iconst (v := 0) dX6_findAddresses_200 (by decide) ?_
      refine uu_istore dX6_findAddresses_201 (by decide) rfl ?_
      refine uu_goto (tgt := 335) dX6_findAddresses_203 (by decide) ?_
      refine uu_iinc (v := x7 + 1) dX6_findAddresses_335 (k := 6) rfl rfl (by decide) rfl ?_
      refine uu_goto (tgt := 32) dX6_findAddresses_338 (by decide) ?_
      refine uu_lv [2, 3, 4, 5, 1, 6, 0] (lv' := [(0, .ref (B + 1053)), (2, .int x2), (3, .int x3), (4, .int x4), (5, .int 0), (6, .int (bI b6)), (7, .int (x7 + 1))]) rfl ?_
      exact hK32 x2 x3 x4 false b6 (x7 + 1) _ _ h
    · replace h := uu_neg c5 h
      refine uu_iconst (v := 1) dX6_findAddresses_196 (by decide) ?_
      refine uu_goto (tgt := 201) dX6_findAddresses_197 (by decide) ?_
      refine uu_istore dX6_findAddresses_201 (by decide) rfl ?_
      refine uu_goto (tgt := 335) dX6_findAddresses_203 (by decide) ?_
      refine uu_iinc (v := x7 + 1) dX6_findAddresses_335 (k := 6) rfl rfl (by decide) rfl ?_
      refine uu_goto (tgt := 32) dX6_findAddresses_338 (by decide) ?_
      refine uu_lv [2, 3, 4, 5, 1, 6, 0] (lv' := [(0, .ref (B + 1053)), (2, .int x2), (3, .int x3), (4, .int x4), (5, .int 1), (6, .int (bI b6)), (7, .int (x7 + 1))]) rfl ?_
      exact hK32 x2 x3 x4 true b6 (x7 + 1) _ _ h
def fb_X6_findAddresses_152 (K32 : Int32 → Int32 → Int32 → Bool → Bool → Int32 → uS → Option uS) (x2 : Int32) (x3 : Int32) (x4 : Int32) (b5 : Bool) (b6 : Bool) (x7 : Int32) (x8 : Int32) (b9 : Bool) (s : uS) : Option uS := if b9 = true then (if b6 = true then (fb_X6_findAddresses_169 K32 x2 x3 x4 b5 b6 x7 s) else (if x8 = 92 then (fb_X6_findAddresses_169 K32 x2 x3 x4 b5 b6 x7 s) else (fb_X6_findAddresses_184 K32 x2 x3 x4 b5 b6 x7 x8 s))) else (fb_X6_findAddresses_184 K32 x2 x3 x4 b5 b6 x7 x8 s)
set_option maxRecDepth 100000 in
set_option maxHeartbeats 4000000 in
theorem xb_X6_findAddresses_152 {l : Launch} {D : va_G} {A : Nat → ClassId} {B : Nat} {Z : State → Heap → Prop} {vF : Value} (uk : uK B Z vF) (un : uX A B Z) {K32 : Int32 → Int32 → Int32 → Bool → Bool → Int32 → uS → Option uS} (hK32 : ∀ (x2 : Int32) (x3 : Int32) (x4 : Int32) (b5 : Bool) (b6 : Bool) (x7 : Int32)  (s : uS) (r : uS), K32 x2 x3 x4 b5 b6 x7 s = some r → GU l D A B Z mX6_findAddresses 6 (r, none) s 32 [(0, .ref (B + 1053)), (2, .int x2), (3, .int x3), (4, .int x4), (5, .int (bI b5)), (6, .int (bI b6)), (7, .int x7)] []) {x2 : Int32} {x3 : Int32} {x4 : Int32} {b5 : Bool} {b6 : Bool} {x7 : Int32} {x8 : Int32} {b9 : Bool} {s : uS} {r : uS}  (h : fb_X6_findAddresses_152 K32 x2 x3 x4 b5 b6 x7 x8 b9 s = some r) : GU l D A B Z mX6_findAddresses 6 (r, none) s 152 [(0, .ref (B + 1053)), (2, .int x2), (3, .int x3), (4, .int x4), (5, .int (bI b5)), (6, .int (bI b6)), (7, .int x7), (8, .int x8), (9, .int (bI b9))] [] := by
  unfold fb_X6_findAddresses_152 at h
  refine uu_iload dX6_findAddresses_152 (List.mem_of_getElem? (i := 8) rfl) ?_
  refine uu_ifb_eq (tgt := 184) dX6_findAddresses_154 (by decide) (fun c1 => ?_) (fun c1 => ?_)
  · replace h := uu_neg c1 h
    refine uu_lv [0, 1, 2, 3, 4, 5, 6, 7] (lv' := [(0, .ref (B + 1053)), (2, .int x2), (3, .int x3), (4, .int x4), (5, .int (bI b5)), (6, .int (bI b6)), (7, .int x7), (8, .int x8)]) rfl ?_
    exact xb_X6_findAddresses_184 uk un hK32 h
  · replace h := uu_pos c1 h
    refine uu_iload dX6_findAddresses_157 (List.mem_of_getElem? (i := 5) rfl) ?_
    refine uu_ifb_ne (tgt := 169) dX6_findAddresses_159 (by decide) (fun c2 => ?_) (fun c2 => ?_)
    · replace h := uu_pos c2 h
      refine uu_lv [0, 1, 2, 3, 4, 5, 6] (lv' := [(0, .ref (B + 1053)), (2, .int x2), (3, .int x3), (4, .int x4), (5, .int (bI b5)), (6, .int (bI b6)), (7, .int x7)]) rfl ?_
      exact xb_X6_findAddresses_169 uk un hK32 h
    · replace h := uu_neg c2 h
      refine uu_iload dX6_findAddresses_162 (List.mem_of_getElem? (i := 7) rfl) ?_
      refine uu_bipush (v := 92) dX6_findAddresses_164 (by decide) ?_
      refine uu_icmp_ne (tgt := 184) dX6_findAddresses_166 (by decide) (fun c3 => ?_) (fun c3 => ?_)
      · replace h := uu_neg c3 h
        refine uu_lv [0, 1, 2, 3, 4, 5, 6, 7] (lv' := [(0, .ref (B + 1053)), (2, .int x2), (3, .int x3), (4, .int x4), (5, .int (bI b5)), (6, .int (bI b6)), (7, .int x7), (8, .int x8)]) rfl ?_
        exact xb_X6_findAddresses_184 uk un hK32 h
      · replace h := uu_pos c3 h
        refine uu_lv [0, 1, 2, 3, 4, 5, 6] (lv' := [(0, .ref (B + 1053)), (2, .int x2), (3, .int x3), (4, .int x4), (5, .int (bI b5)), (6, .int (bI b6)), (7, .int x7)]) rfl ?_
        exact xb_X6_findAddresses_169 uk un hK32 h
def fb_X6_findAddresses_76 (K32 : Int32 → Int32 → Int32 → Bool → Bool → Int32 → uS → Option uS) (x2 : Int32) (x3 : Int32) (x4 : Int32) (b5 : Bool) (b6 : Bool) (x7 : Int32) (x8 : Int32) (bs0 : Bool) (s : uS) : Option uS := if x7 = x2 then (fb_X6_findAddresses_101 K32 x2 x3 x4 b5 b6 x7 s) else (if x8 = 44 then (if bs0 = true then (fb_X6_findAddresses_152 K32 x2 x3 x4 b5 b6 x7 x8 bs0 s) else (if x3 = 1 then (fb_X6_findAddresses_152 K32 x2 x3 x4 b5 b6 x7 x8 bs0 s) else (fb_X6_findAddresses_101 K32 x2 x3 x4 b5 b6 x7 s))) else (fb_X6_findAddresses_152 K32 x2 x3 x4 b5 b6 x7 x8 bs0 s))
set_option maxRecDepth 100000 in
set_option maxHeartbeats 4000000 in
theorem xb_X6_findAddresses_76 {l : Launch} {D : va_G} {A : Nat → ClassId} {B : Nat} {Z : State → Heap → Prop} {vF : Value} (uk : uK B Z vF) (un : uX A B Z) {K32 : Int32 → Int32 → Int32 → Bool → Bool → Int32 → uS → Option uS} (hK32 : ∀ (x2 : Int32) (x3 : Int32) (x4 : Int32) (b5 : Bool) (b6 : Bool) (x7 : Int32)  (s : uS) (r : uS), K32 x2 x3 x4 b5 b6 x7 s = some r → GU l D A B Z mX6_findAddresses 6 (r, none) s 32 [(0, .ref (B + 1053)), (2, .int x2), (3, .int x3), (4, .int x4), (5, .int (bI b5)), (6, .int (bI b6)), (7, .int x7)] []) {x2 : Int32} {x3 : Int32} {x4 : Int32} {b5 : Bool} {b6 : Bool} {x7 : Int32} {x8 : Int32} {bs0 : Bool} {s : uS} {r : uS}  (h : fb_X6_findAddresses_76 K32 x2 x3 x4 b5 b6 x7 x8 bs0 s = some r) : GU l D A B Z mX6_findAddresses 6 (r, none) s 76 [(0, .ref (B + 1053)), (2, .int x2), (3, .int x3), (4, .int x4), (5, .int (bI b5)), (6, .int (bI b6)), (7, .int x7), (8, .int x8)] [.int (bI bs0)] := by
  unfold fb_X6_findAddresses_76 at h
  refine uu_istore dX6_findAddresses_76 (by decide) rfl ?_
  refine uu_iload dX6_findAddresses_78 (List.mem_of_getElem? (i := 7) rfl) ?_
  refine uu_iload_n dX6_findAddresses_80 rfl (List.mem_of_getElem? (i := 2) rfl) ?_
  refine uu_icmp_eq (tgt := 101) dX6_findAddresses_81 (by decide) (fun c1 => ?_) (fun c1 => ?_)
  · replace h := uu_pos c1 h
    refine uu_lv [1, 2, 3, 4, 5, 6, 7] (lv' := [(0, .ref (B + 1053)), (2, .int x2), (3, .int x3), (4, .int x4), (5, .int (bI b5)), (6, .int (bI b6)), (7, .int x7)]) rfl ?_
    exact xb_X6_findAddresses_101 uk un hK32 h
  · replace h := uu_neg c1 h
    refine uu_iload dX6_findAddresses_84 (List.mem_of_getElem? (i := 8) rfl) ?_
    refine uu_bipush (v := 44) dX6_findAddresses_86 (by decide) ?_
    refine uu_icmp_ne (tgt := 152) dX6_findAddresses_88 (by decide) (fun c2 => ?_) (fun c2 => ?_)
    · replace h := uu_neg c2 h
      refine uu_lv [1, 2, 3, 4, 5, 6, 7, 8, 0] (lv' := [(0, .ref (B + 1053)), (2, .int x2), (3, .int x3), (4, .int x4), (5, .int (bI b5)), (6, .int (bI b6)), (7, .int x7), (8, .int x8), (9, .int (bI bs0))]) rfl ?_
      exact xb_X6_findAddresses_152 uk un hK32 h
    · replace h := uu_pos c2 h
      refine uu_iload dX6_findAddresses_91 (List.mem_of_getElem? (i := 0) rfl) ?_
      refine uu_ifb_ne (tgt := 152) dX6_findAddresses_93 (by decide) (fun c3 => ?_) (fun c3 => ?_)
      · replace h := uu_pos c3 h
        refine uu_lv [1, 2, 3, 4, 5, 6, 7, 8, 0] (lv' := [(0, .ref (B + 1053)), (2, .int x2), (3, .int x3), (4, .int x4), (5, .int (bI b5)), (6, .int (bI b6)), (7, .int x7), (8, .int x8), (9, .int (bI bs0))]) rfl ?_
        exact xb_X6_findAddresses_152 uk un hK32 h
      · replace h := uu_neg c3 h
        refine uu_iload_n dX6_findAddresses_96 rfl (List.mem_of_getElem? (i := 3) rfl) ?_
        refine uu_iconst (v := 1) dX6_findAddresses_97 (by decide) ?_
        refine uu_icmp_eq (tgt := 152) dX6_findAddresses_98 (by decide) (fun c4 => ?_) (fun c4 => ?_)
        · replace h := uu_pos c4 h
          refine uu_lv [1, 2, 3, 4, 5, 6, 7, 8, 0] (lv' := [(0, .ref (B + 1053)), (2, .int x2), (3, .int x3), (4, .int x4), (5, .int (bI b5)), (6, .int (bI b6)), (7, .int x7), (8, .int x8), (9, .int (bI bs0))]) rfl ?_
          exact xb_X6_findAddresses_152 uk un hK32 h
        · replace h := uu_neg c4 h
          refine uu_lv [1, 2, 3, 4, 5, 6, 7] (lv' := [(0, .ref (B + 1053)), (2, .int x2), (3, .int x3), (4, .int x4), (5, .int (bI b5)), (6, .int (bI b6)), (7, .int x7)]) rfl ?_
          exact xb_X6_findAddresses_101 uk un hK32 h
def fb_X6_findAddresses_59 (K32 : Int32 → Int32 → Int32 → Bool → Bool → Int32 → uS → Option uS) (x2 : Int32) (x3 : Int32) (x4 : Int32) (b5 : Bool) (b6 : Bool) (x7 : Int32) (xs0 : Int32) (s : uS) : Option uS := if b5 = true then (fb_X6_findAddresses_76 K32 x2 x3 x4 b5 b6 x7 xs0 true s) else (if x4 ≤ 0 then (fb_X6_findAddresses_76 K32 x2 x3 x4 b5 b6 x7 xs0 false s) else (fb_X6_findAddresses_76 K32 x2 x3 x4 b5 b6 x7 xs0 true s))
set_option maxRecDepth 100000 in
set_option maxHeartbeats 4000000 in
theorem xb_X6_findAddresses_59 {l : Launch} {D : va_G} {A : Nat → ClassId} {B : Nat} {Z : State → Heap → Prop} {vF : Value} (uk : uK B Z vF) (un : uX A B Z) {K32 : Int32 → Int32 → Int32 → Bool → Bool → Int32 → uS → Option uS} (hK32 : ∀ (x2 : Int32) (x3 : Int32) (x4 : Int32) (b5 : Bool) (b6 : Bool) (x7 : Int32)  (s : uS) (r : uS), K32 x2 x3 x4 b5 b6 x7 s = some r → GU l D A B Z mX6_findAddresses 6 (r, none) s 32 [(0, .ref (B + 1053)), (2, .int x2), (3, .int x3), (4, .int x4), (5, .int (bI b5)), (6, .int (bI b6)), (7, .int x7)] []) {x2 : Int32} {x3 : Int32} {x4 : Int32} {b5 : Bool} {b6 : Bool} {x7 : Int32} {xs0 : Int32} {s : uS} {r : uS}  (h : fb_X6_findAddresses_59 K32 x2 x3 x4 b5 b6 x7 xs0 s = some r) : GU l D A B Z mX6_findAddresses 6 (r, none) s 59 [(0, .ref (B + 1053)), (2, .int x2), (3, .int x3), (4, .int x4), (5, .int (bI b5)), (6, .int (bI b6)), (7, .int x7)] [.int xs0] := by
  unfold fb_X6_findAddresses_59 at h
  refine uu_istore dX6_findAddresses_59 (by decide) rfl ?_
  refine uu_iload dX6_findAddresses_61 (List.mem_of_getElem? (i := 5) rfl) ?_
  refine uu_ifb_ne (tgt := 71) dX6_findAddresses_63 (by decide) (fun c1 => ?_) (fun c1 => ?_)
  · replace h := uu_pos c1 h
    refine uu_iconst (v := 1) dX6_findAddresses_71 (by decide) ?_
    refine uu_goto (tgt := 76) dX6_findAddresses_72 (by decide) ?_
    refine uu_lv [1, 2, 3, 4, 5, 6, 7, 0] (lv' := [(0, .ref (B + 1053)), (2, .int x2), (3, .int x3), (4, .int x4), (5, .int (bI b5)), (6, .int (bI b6)), (7, .int x7), (8, .int xs0)]) rfl ?_
    exact xb_X6_findAddresses_76 uk un hK32 h
  · replace h := uu_neg c1 h
    refine uu_iload dX6_findAddresses_66 (List.mem_of_getElem? (i := 4) rfl) ?_
    refine uu_if_le (tgt := 75) dX6_findAddresses_68 (by decide) (fun c2 => ?_) (fun c2 => ?_)
    · replace h := uu_pos c2 h
      refine uu_iconst (v := 0) dX6_findAddresses_75 (by decide) ?_
      refine uu_lv [1, 2, 3, 4, 5, 6, 7, 0] (lv' := [(0, .ref (B + 1053)), (2, .int x2), (3, .int x3), (4, .int x4), (5, .int (bI b5)), (6, .int (bI b6)), (7, .int x7), (8, .int xs0)]) rfl ?_
      exact xb_X6_findAddresses_76 uk un hK32 h
    · replace h := uu_neg c2 h
      refine uu_iconst (v := 1) dX6_findAddresses_71 (by decide) ?_
      refine uu_goto (tgt := 76) dX6_findAddresses_72 (by decide) ?_
      refine uu_lv [1, 2, 3, 4, 5, 6, 7, 0] (lv' := [(0, .ref (B + 1053)), (2, .int x2), (3, .int x3), (4, .int x4), (5, .int (bI b5)), (6, .int (bI b6)), (7, .int x7), (8, .int xs0)]) rfl ?_
      exact xb_X6_findAddresses_76 uk un hK32 h
def fb_X6_findAddresses_32 (K32 : Int32 → Int32 → Int32 → Bool → Bool → Int32 → uS → Option uS) (x2 : Int32) (x3 : Int32) (x4 : Int32) (b5 : Bool) (b6 : Bool) (x7 : Int32) (s : uS) : Option uS := if x2 < x7 then (some s) else (if x2 ≤ x7 then (fb_X6_findAddresses_59 K32 x2 x3 x4 b5 b6 x7 44 s) else ((iget 21 s 1059 x7).bind fun v3 => fb_X6_findAddresses_59 K32 x2 x3 x4 b5 b6 x7 v3 s))
set_option maxRecDepth 100000 in
set_option maxHeartbeats 4000000 in
theorem xb_X6_findAddresses_32 {l : Launch} {D : va_G} {A : Nat → ClassId} {B : Nat} {Z : State → Heap → Prop} {vF : Value} (uk : uK B Z vF) (un : uX A B Z) {K32 : Int32 → Int32 → Int32 → Bool → Bool → Int32 → uS → Option uS} (hK32 : ∀ (x2 : Int32) (x3 : Int32) (x4 : Int32) (b5 : Bool) (b6 : Bool) (x7 : Int32)  (s : uS) (r : uS), K32 x2 x3 x4 b5 b6 x7 s = some r → GU l D A B Z mX6_findAddresses 6 (r, none) s 32 [(0, .ref (B + 1053)), (2, .int x2), (3, .int x3), (4, .int x4), (5, .int (bI b5)), (6, .int (bI b6)), (7, .int x7)] []) {x2 : Int32} {x3 : Int32} {x4 : Int32} {b5 : Bool} {b6 : Bool} {x7 : Int32} {s : uS} {r : uS}  (h : fb_X6_findAddresses_32 K32 x2 x3 x4 b5 b6 x7 s = some r) : GU l D A B Z mX6_findAddresses 6 (r, none) s 32 [(0, .ref (B + 1053)), (2, .int x2), (3, .int x3), (4, .int x4), (5, .int (bI b5)), (6, .int (bI b6)), (7, .int x7)] [] := by
  unfold fb_X6_findAddresses_32 at h
  refine uu_iload dX6_findAddresses_32 (List.mem_of_getElem? (i := 6) rfl) ?_
  refine uu_iload_n dX6_findAddresses_34 rfl (List.mem_of_getElem? (i := 1) rfl) ?_
  refine uu_icmp_gt (tgt := 341) dX6_findAddresses_35 (by decide) (fun c1 => ?_) (fun c1 => ?_)
  · replace h := uu_pos c1 h
    have hr := Option.some.inj h
    subst hr
    exact uu_vret rfl dX6_findAddresses_341
  · replace h := uu_neg c1 h
    refine uu_iload dX6_findAddresses_38 (List.mem_of_getElem? (i := 6) rfl) ?_
    refine uu_iload_n dX6_findAddresses_40 rfl (List.mem_of_getElem? (i := 1) rfl) ?_
    refine uu_icmp_ge (tgt := 57) dX6_findAddresses_41 (by decide) (fun c2 => ?_) (fun c2 => ?_)
    · replace h := uu_pos c2 h
      refine uu_bipush (v := 44) dX6_findAddresses_57 (by decide) ?_
      exact xb_X6_findAddresses_59 uk un hK32 h
    · replace h := uu_neg c2 h
      refine uu_aload_n dX6_findAddresses_44 rfl (List.mem_of_getElem? (i := 0) rfl) ?_
      refine uu_geta (ci := 6) (N := 6) fX6_18 (by decide) so_1053.is (by decide) (c := 1058) (by decide) dX6_findAddresses_45 ?_
      refine uu_getc (ci := 9) (N := 6) fX6_82 (by decide) so_1058.is (by decide) (c := 1) (by decide) (k2 := 1059) rfl dX6_findAddresses_48 ?_
      refine uu_iload dX6_findAddresses_51 (List.mem_of_getElem? (i := 6) rfl) ?_
      obtain ⟨v3, e4, h⟩ := uu_ob h
      refine uu_bald e4 dX6_findAddresses_53 ?_
      refine uu_goto (tgt := 59) dX6_findAddresses_54 (by decide) ?_
      exact xb_X6_findAddresses_59 uk un hK32 h
def fn_X6_findAddresses_32  : Nat → Int32 → Int32 → Int32 → Bool → Bool → Int32 → uS → Option uS
  | 0 => fun _ _ _ _ _ _ _ => none
  | n + 1 => fb_X6_findAddresses_32 (fn_X6_findAddresses_32  n)
set_option maxRecDepth 100000 in
set_option maxHeartbeats 4000000 in
theorem xn_X6_findAddresses_32 {l : Launch} {D : va_G} {A : Nat → ClassId} {B : Nat} {Z : State → Heap → Prop} {vF : Value} (uk : uK B Z vF) (un : uX A B Z)   : ∀ (n : Nat) (x2 : Int32) (x3 : Int32) (x4 : Int32) (b5 : Bool) (b6 : Bool) (x7 : Int32)  (s : uS) (r : uS), fn_X6_findAddresses_32  n x2 x3 x4 b5 b6 x7 s = some r → GU l D A B Z mX6_findAddresses 6 (r, none) s 32 [(0, .ref (B + 1053)), (2, .int x2), (3, .int x3), (4, .int x4), (5, .int (bI b5)), (6, .int (bI b6)), (7, .int x7)] [] := by
  intro n
  induction n with
  | zero => intro x2 x3 x4 b5 b6 x7 s r h
            cases h
  | succ n ih => intro x2 x3 x4 b5 b6 x7 s r h
                 exact xb_X6_findAddresses_32 uk un ih  h
def fn_X6_findAddresses (x1 : Int32) (s : uS) : Option uS := (iget 20 s 1061 x1).bind fun v1 => (iget 20 s 1060 x1).bind fun v3 => fn_X6_findAddresses_32 uFu v1 0 0 false false v3 s
set_option maxRecDepth 100000 in
set_option maxHeartbeats 4000000 in
theorem xc_X6_findAddresses {l : Launch} {D : va_G} {A : Nat → ClassId} {B : Nat} {Z : State → Heap → Prop} {vF : Value} (uk : uK B Z vF) (un : uX A B Z) {x1 : Int32} {s : uS} {r : uS}  (h : fn_X6_findAddresses x1 s = some r) : CU l D A B Z 6 mX6_findAddresses s [.ref (B + 1053), .int x1] (r, none) := by
  unfold fn_X6_findAddresses at h
  refine cu_of rfl uk.1.1 (Nat.le_of_ble_eq_true rfl) ?_
  show GU _ _ _ _ _ _ _ _ _ 0 [(0, .ref (B + 1053)), (1, .int x1)] []
  refine uu_aload_n dX6_findAddresses_0 rfl (List.mem_of_getElem? (i := 0) rfl) ?_
  refine uu_geta (ci := 6) (N := 6) fX6_18 (by decide) so_1053.is (by decide) (c := 1058) (by decide) dX6_findAddresses_1 ?_
  refine uu_getc (ci := 9) (N := 6) fX6_75 (by decide) so_1058.is (by decide) (c := 3) (by decide) (k2 := 1061) rfl dX6_findAddresses_4 ?_
  refine uu_iload_n dX6_findAddresses_7 rfl (List.mem_of_getElem? (i := 1) rfl) ?_
  obtain ⟨v1, e2, h⟩ := uu_ob h
  refine uu_iald e2 dX6_findAddresses_8 ?_
  refine uu_istore_n dX6_findAddresses_9 rfl (by decide) rfl ?_
  refine uu_iconst (v := 0) dX6_findAddresses_10 (by decide) ?_
  refine uu_istore_n dX6_findAddresses_11 rfl (by decide) rfl ?_
  refine uu_iconst (v := 0) dX6_findAddresses_12 (by decide) ?_
  refine uu_istore dX6_findAddresses_13 (by decide) rfl ?_
  refine uu_iconst (v := 0) dX6_findAddresses_15 (by decide) ?_
  refine uu_istore dX6_findAddresses_16 (by decide) rfl ?_
  refine uu_iconst (v := 0) dX6_findAddresses_18 (by decide) ?_
  refine uu_istore dX6_findAddresses_19 (by decide) rfl ?_
  refine uu_aload_n dX6_findAddresses_21 rfl (List.mem_of_getElem? (i := 5) rfl) ?_
  refine uu_geta (ci := 6) (N := 6) fX6_18 (by decide) so_1053.is (by decide) (c := 1058) (by decide) dX6_findAddresses_22 ?_
  refine uu_getc (ci := 9) (N := 6) fX6_79 (by decide) so_1058.is (by decide) (c := 2) (by decide) (k2 := 1060) rfl dX6_findAddresses_25 ?_
  refine uu_iload_n dX6_findAddresses_28 rfl (List.mem_of_getElem? (i := 6) rfl) ?_
  obtain ⟨v3, e4, h⟩ := uu_ob h
  refine uu_iald e4 dX6_findAddresses_29 ?_
  refine uu_istore dX6_findAddresses_30 (by decide) rfl ?_
  refine uu_lv [6, 5, 4, 3, 2, 1, 0] (lv' := [(0, .ref (B + 1053)), (2, .int v1), (3, .int 0), (4, .int 0), (5, .int 0), (6, .int 0), (7, .int v3)]) rfl ?_
  exact xn_X6_findAddresses_32 uk un  _ _ _ _ _ _ _ _ _ h
abbrev mX9_addFrom : hM := (yX9_addFrom, cX9_addFrom, 3, none)
theorem dX9_addFrom_32 : decode cX9_addFrom 32 = .ok (.aload_n 0, 1) := by decide +kernel
theorem dX9_addFrom_33 : decode cX9_addFrom 33 = .ok (.invokevirtual 61, 3) := by decide +kernel
theorem dX9_addFrom_36 : decode cX9_addFrom 36 = .ok (.return_, 1) := by decide +kernel
theorem dX9_addFrom_0 : decode cX9_addFrom 0 = .ok (.iload_n 2, 1) := by decide +kernel
theorem dX9_addFrom_1 : decode cX9_addFrom 1 = .ok (.ifCond .lt 31, 3) := by decide +kernel
theorem dX9_addFrom_4 : decode cX9_addFrom 4 = .ok (.iload_n 2, 1) := by decide +kernel
theorem dX9_addFrom_5 : decode cX9_addFrom 5 = .ok (.aload_n 1, 1) := by decide +kernel
theorem dX9_addFrom_6 : decode cX9_addFrom 6 = .ok (.getfield 20, 3) := by decide +kernel
theorem dX9_addFrom_9 : decode cX9_addFrom 9 = .ok (.if_icmp .ge 23, 3) := by decide +kernel
theorem dX9_addFrom_12 : decode cX9_addFrom 12 = .ok (.aload_n 0, 1) := by decide +kernel
theorem dX9_addFrom_13 : decode cX9_addFrom 13 = .ok (.aload_n 1, 1) := by decide +kernel
theorem dX9_addFrom_14 : decode cX9_addFrom 14 = .ok (.getfield 9, 3) := by decide +kernel
theorem dX9_addFrom_17 : decode cX9_addFrom 17 = .ok (.aload_n 1, 1) := by decide +kernel
theorem dX9_addFrom_18 : decode cX9_addFrom 18 = .ok (.getfield 13, 3) := by decide +kernel
theorem dX9_addFrom_21 : decode cX9_addFrom 21 = .ok (.iload_n 2, 1) := by decide +kernel
theorem dX9_addFrom_22 : decode cX9_addFrom 22 = .ok (.iaload, 1) := by decide +kernel
theorem dX9_addFrom_23 : decode cX9_addFrom 23 = .ok (.aload_n 1, 1) := by decide +kernel
theorem dX9_addFrom_24 : decode cX9_addFrom 24 = .ok (.getfield 17, 3) := by decide +kernel
theorem dX9_addFrom_27 : decode cX9_addFrom 27 = .ok (.iload_n 2, 1) := by decide +kernel
theorem dX9_addFrom_28 : decode cX9_addFrom 28 = .ok (.iaload, 1) := by decide +kernel
theorem lX9_56 : Cond.methodLink RX9 56 mX9_putRange.1 ∈ lw_g := h_t5 158 rfl rfl
theorem dX9_addFrom_29 : decode cX9_addFrom 29 = .ok (.invokevirtual 56, 3) := by decide +kernel
def fb_X9_addFrom_32  (k0 : Nat) (s : uS) : Option uS := (fn_X9_close k0 s).bind fun s1 => some s1
set_option maxRecDepth 100000 in
set_option maxHeartbeats 4000000 in
theorem xb_X9_addFrom_32 {l : Launch} {D : va_G} {A : Nat → ClassId} {B : Nat} {Z : State → Heap → Prop} {vF : Value} (uk : uK B Z vF) (un : uX A B Z)   {k0 : Nat} {s : uS} {r : uS} (hk0 : uSo k0 9) (h : fb_X9_addFrom_32  k0 s = some r) : GU l D A B Z mX9_addFrom 2 (r, none) s 32 [(0, .ref (B + k0))] [] := by
  unfold fb_X9_addFrom_32 at h
  refine uu_aload_n dX9_addFrom_32 rfl (List.mem_of_getElem? (i := 0) rfl) ?_
  obtain ⟨s1, e2, h⟩ := uu_ob h
  refine uu_cv (d1 := 0) (k := k0) (ci := 9) (T := TX9) (N := 6) (As := []) (st := []) (st' := []) (xc_X9_close uk hk0 e2) hk0.is (by decide) rfl kX9_close lX9_61 sX9_close (by decide) (Nat.le_of_ble_eq_true rfl) dX9_addFrom_33 rfl ?_
  have hr := Option.some.inj h
  subst hr
  exact uu_vret rfl dX9_addFrom_36
def fn_X9_addFrom (k0 : Nat) (k1 : Nat) (x2 : Int32) (s : uS) : Option uS := if x2 < 0 then (fb_X9_addFrom_32 k0 s) else (if (s.I k1 3) ≤ x2 then (fb_X9_addFrom_32 k0 s) else ((iget 20 s (k1 + 2) x2).bind fun v3 => (iget 20 s (k1 + 3) x2).bind fun v5 => (fn_X9_putRange k0 (k1 + 1) v3 v5 s).bind fun s7 => fb_X9_addFrom_32 k0 s7))
set_option maxRecDepth 100000 in
set_option maxHeartbeats 4000000 in
theorem xc_X9_addFrom {l : Launch} {D : va_G} {A : Nat → ClassId} {B : Nat} {Z : State → Heap → Prop} {vF : Value} (uk : uK B Z vF) (un : uX A B Z) {k0 : Nat} {k1 : Nat} {x2 : Int32} {s : uS} {r : uS} (hk0 : uSo k0 9) (hk1 : uSo k1 9) (h : fn_X9_addFrom k0 k1 x2 s = some r) : CU l D A B Z 2 mX9_addFrom s [.ref (B + k0), .ref (B + k1), .int x2] (r, none) := by
  unfold fn_X9_addFrom at h
  refine cu_of rfl uk.1.1 (Nat.le_of_ble_eq_true rfl) ?_
  show GU _ _ _ _ _ _ _ _ _ 0 [(0, .ref (B + k0)), (1, .ref (B + k1)), (2, .int x2)] []
  refine uu_iload_n dX9_addFrom_0 rfl (List.mem_of_getElem? (i := 2) rfl) ?_
  refine uu_if_lt (tgt := 32) dX9_addFrom_1 (by decide) (fun c1 => ?_) (fun c1 => ?_)
  · replace h := uu_pos c1 h
    refine uu_lv [0] (lv' := [(0, .ref (B + k0))]) rfl ?_
    exact xb_X9_addFrom_32 uk un hk0 h
  · replace h := uu_neg c1 h
    refine uu_iload_n dX9_addFrom_4 rfl (List.mem_of_getElem? (i := 2) rfl) ?_
    refine uu_aload_n dX9_addFrom_5 rfl (List.mem_of_getElem? (i := 1) rfl) ?_
    refine uu_geti (ci := 9) (N := 6) fX9_20 (by decide) hk1.is (by decide) (by decide) dX9_addFrom_6 ?_
    refine uu_icmp_ge (tgt := 32) dX9_addFrom_9 (by decide) (fun c2 => ?_) (fun c2 => ?_)
    · replace h := uu_pos c2 h
      refine uu_lv [0] (lv' := [(0, .ref (B + k0))]) rfl ?_
      exact xb_X9_addFrom_32 uk un hk0 h
    · replace h := uu_neg c2 h
      refine uu_aload_n dX9_addFrom_12 rfl (List.mem_of_getElem? (i := 0) rfl) ?_
      refine uu_aload_n dX9_addFrom_13 rfl (List.mem_of_getElem? (i := 1) rfl) ?_
      refine uu_getc (ci := 9) (N := 6) fX9_9 (by decide) hk1.is (by decide) (c := 1) (by decide) (k2 := k1 + 1) rfl dX9_addFrom_14 ?_
      refine uu_aload_n dX9_addFrom_17 rfl (List.mem_of_getElem? (i := 1) rfl) ?_
      refine uu_getc (ci := 9) (N := 6) fX9_13 (by decide) hk1.is (by decide) (c := 2) (by decide) (k2 := k1 + 2) rfl dX9_addFrom_18 ?_
      refine uu_iload_n dX9_addFrom_21 rfl (List.mem_of_getElem? (i := 2) rfl) ?_
      obtain ⟨v3, e4, h⟩ := uu_ob h
      refine uu_iald e4 dX9_addFrom_22 ?_
      refine uu_aload_n dX9_addFrom_23 rfl (List.mem_of_getElem? (i := 1) rfl) ?_
      refine uu_getc (ci := 9) (N := 6) fX9_17 (by decide) hk1.is (by decide) (c := 3) (by decide) (k2 := k1 + 3) rfl dX9_addFrom_24 ?_
      refine uu_iload_n dX9_addFrom_27 rfl (List.mem_of_getElem? (i := 2) rfl) ?_
      obtain ⟨v5, e6, h⟩ := uu_ob h
      refine uu_iald e6 dX9_addFrom_28 ?_
      obtain ⟨s7, e8, h⟩ := uu_ob h
      refine uu_cv (d1 := 1) (k := k0) (ci := 9) (T := TX9) (N := 6) (As := [.ref (B + (k1 + 1)), .int v3, .int v5]) (st := []) (st' := []) (xc_X9_putRange uk un hk0 e8) hk0.is (by decide) rfl kX9_putRange lX9_56 sX9_putRange (by decide) (Nat.le_of_ble_eq_true rfl) dX9_addFrom_29 rfl ?_
      refine uu_lv [0] (lv' := [(0, .ref (B + k0))]) rfl ?_
      exact xb_X9_addFrom_32 uk un hk0 h
abbrev mX6_gatherEnvelope : hM := (yX6_gatherEnvelope, cX6_gatherEnvelope, 8, none)
theorem dX6_gatherEnvelope_122 : decode cX6_gatherEnvelope 122 = .ok (.iload 4, 2) := by decide +kernel
theorem dX6_gatherEnvelope_124 : decode cX6_gatherEnvelope 124 = .ok (.ifCond .eq 18, 3) := by decide +kernel
theorem dX6_gatherEnvelope_142 : decode cX6_gatherEnvelope 142 = .ok (.return_, 1) := by decide +kernel
theorem dX6_gatherEnvelope_127 : decode cX6_gatherEnvelope 127 = .ok (.aload_n 0, 1) := by decide +kernel
theorem dX6_gatherEnvelope_128 : decode cX6_gatherEnvelope 128 = .ok (.getfield 21, 3) := by decide +kernel
theorem dX6_gatherEnvelope_131 : decode cX6_gatherEnvelope 131 = .ok (.aload_n 0, 1) := by decide +kernel
theorem dX6_gatherEnvelope_132 : decode cX6_gatherEnvelope 132 = .ok (.getfield 27, 3) := by decide +kernel
theorem fX6_156 : h_fl RX6 156 0 1 RX0 TX0 12 := ⟨rfl, by decide, inX0, h_t2 169 rfl rfl⟩
theorem dX6_gatherEnvelope_135 : decode cX6_gatherEnvelope 135 = .ok (.getfield 156, 3) := by decide +kernel
theorem dX6_gatherEnvelope_138 : decode cX6_gatherEnvelope 138 = .ok (.iload_n 2, 1) := by decide +kernel
theorem kX9_addFrom : h_ml mX9_addFrom 2 := ⟨h_t5 157 rfl rfl, h_t1 4 rfl rfl, ⟨by decide, by decide, by decide +kernel⟩, by decide⟩
theorem lX6_111 : Cond.methodLink RX6 111 mX9_addFrom.1 ∈ lw_g := h_t5 154 rfl rfl
theorem sX9_addFrom : Cond.instanceMethod mX9_addFrom.1 ∈ lw_g ∧ Cond.selects mX9_addFrom.1.cls mX9_addFrom.1 mX9_addFrom.1 ∈ lw_g := ⟨h_t5 155 rfl rfl, h_t5 156 rfl rfl⟩
theorem dX6_gatherEnvelope_139 : decode cX6_gatherEnvelope 139 = .ok (.invokevirtual 111, 3) := by decide +kernel
theorem dX6_gatherEnvelope_78 : decode cX6_gatherEnvelope 78 = .ok (.istore_n 3, 1) := by decide +kernel
theorem dX6_gatherEnvelope_79 : decode cX6_gatherEnvelope 79 = .ok (.iload 4, 2) := by decide +kernel
theorem dX6_gatherEnvelope_81 : decode cX6_gatherEnvelope 81 = .ok (.ifCond .ne 9, 3) := by decide +kernel
theorem dX6_gatherEnvelope_90 : decode cX6_gatherEnvelope 90 = .ok (.iconst 1, 1) := by decide +kernel
theorem dX6_gatherEnvelope_91 : decode cX6_gatherEnvelope 91 = .ok (.goto 4, 3) := by decide +kernel
theorem dX6_gatherEnvelope_95 : decode cX6_gatherEnvelope 95 = .ok (.istore 4, 2) := by decide +kernel
theorem dX6_gatherEnvelope_97 : decode cX6_gatherEnvelope 97 = .ok (.iinc 5 1, 3) := by decide +kernel
theorem dX6_gatherEnvelope_100 : decode cX6_gatherEnvelope 100 = .ok (.goto (-92), 3) := by decide +kernel
theorem dX6_gatherEnvelope_84 : decode cX6_gatherEnvelope 84 = .ok (.iload 7, 2) := by decide +kernel
theorem dX6_gatherEnvelope_86 : decode cX6_gatherEnvelope 86 = .ok (.iconst 1, 1) := by decide +kernel
theorem dX6_gatherEnvelope_87 : decode cX6_gatherEnvelope 87 = .ok (.if_icmp .ne 7, 3) := by decide +kernel
theorem dX6_gatherEnvelope_94 : decode cX6_gatherEnvelope 94 = .ok (.iconst 0, 1) := by decide +kernel
theorem dX6_gatherEnvelope_8 : decode cX6_gatherEnvelope 8 = .ok (.iload 5, 2) := by decide +kernel
theorem dX6_gatherEnvelope_10 : decode cX6_gatherEnvelope 10 = .ok (.aload_n 1, 1) := by decide +kernel
theorem dX6_gatherEnvelope_11 : decode cX6_gatherEnvelope 11 = .ok (.getfield 140, 3) := by decide +kernel
theorem dX6_gatherEnvelope_14 : decode cX6_gatherEnvelope 14 = .ok (.iconst 0, 1) := by decide +kernel
theorem dX6_gatherEnvelope_15 : decode cX6_gatherEnvelope 15 = .ok (.iaload, 1) := by decide +kernel
theorem dX6_gatherEnvelope_16 : decode cX6_gatherEnvelope 16 = .ok (.if_icmp .ge 87, 3) := by decide +kernel
theorem dX6_gatherEnvelope_103 : decode cX6_gatherEnvelope 103 = .ok (.iload_n 3, 1) := by decide +kernel
theorem dX6_gatherEnvelope_104 : decode cX6_gatherEnvelope 104 = .ok (.ifCond .eq 18, 3) := by decide +kernel
theorem dX6_gatherEnvelope_107 : decode cX6_gatherEnvelope 107 = .ok (.aload_n 0, 1) := by decide +kernel
theorem dX6_gatherEnvelope_108 : decode cX6_gatherEnvelope 108 = .ok (.getfield 21, 3) := by decide +kernel
theorem dX6_gatherEnvelope_111 : decode cX6_gatherEnvelope 111 = .ok (.aload_n 0, 1) := by decide +kernel
theorem dX6_gatherEnvelope_112 : decode cX6_gatherEnvelope 112 = .ok (.getfield 27, 3) := by decide +kernel
theorem dX6_gatherEnvelope_115 : decode cX6_gatherEnvelope 115 = .ok (.getfield 153, 3) := by decide +kernel
theorem dX6_gatherEnvelope_118 : decode cX6_gatherEnvelope 118 = .ok (.iconst 0, 1) := by decide +kernel
theorem dX6_gatherEnvelope_119 : decode cX6_gatherEnvelope 119 = .ok (.invokevirtual 111, 3) := by decide +kernel
theorem dX6_gatherEnvelope_19 : decode cX6_gatherEnvelope 19 = .ok (.aload_n 1, 1) := by decide +kernel
theorem dX6_gatherEnvelope_20 : decode cX6_gatherEnvelope 20 = .ok (.getfield 137, 3) := by decide +kernel
theorem dX6_gatherEnvelope_23 : decode cX6_gatherEnvelope 23 = .ok (.iconst 0, 1) := by decide +kernel
theorem dX6_gatherEnvelope_24 : decode cX6_gatherEnvelope 24 = .ok (.iaload, 1) := by decide +kernel
theorem dX6_gatherEnvelope_25 : decode cX6_gatherEnvelope 25 = .ok (.iload 5, 2) := by decide +kernel
theorem dX6_gatherEnvelope_27 : decode cX6_gatherEnvelope 27 = .ok (.iadd, 1) := by decide +kernel
theorem dX6_gatherEnvelope_28 : decode cX6_gatherEnvelope 28 = .ok (.istore 6, 2) := by decide +kernel
theorem dX6_gatherEnvelope_30 : decode cX6_gatherEnvelope 30 = .ok (.ldc 147, 2) := by decide +kernel
theorem dX6_gatherEnvelope_32 : decode cX6_gatherEnvelope 32 = .ok (.aload_n 0, 1) := by decide +kernel
theorem dX6_gatherEnvelope_33 : decode cX6_gatherEnvelope 33 = .ok (.getfield 31, 3) := by decide +kernel
theorem dX6_gatherEnvelope_36 : decode cX6_gatherEnvelope 36 = .ok (.getfield 82, 3) := by decide +kernel
theorem dX6_gatherEnvelope_39 : decode cX6_gatherEnvelope 39 = .ok (.aload_n 0, 1) := by decide +kernel
theorem dX6_gatherEnvelope_40 : decode cX6_gatherEnvelope 40 = .ok (.getfield 31, 3) := by decide +kernel
theorem dX6_gatherEnvelope_43 : decode cX6_gatherEnvelope 43 = .ok (.getfield 79, 3) := by decide +kernel
theorem dX6_gatherEnvelope_46 : decode cX6_gatherEnvelope 46 = .ok (.iload 6, 2) := by decide +kernel
theorem dX6_gatherEnvelope_48 : decode cX6_gatherEnvelope 48 = .ok (.iaload, 1) := by decide +kernel
theorem dX6_gatherEnvelope_49 : decode cX6_gatherEnvelope 49 = .ok (.aload_n 0, 1) := by decide +kernel
theorem dX6_gatherEnvelope_50 : decode cX6_gatherEnvelope 50 = .ok (.getfield 31, 3) := by decide +kernel
theorem dX6_gatherEnvelope_53 : decode cX6_gatherEnvelope 53 = .ok (.getfield 75, 3) := by decide +kernel
theorem dX6_gatherEnvelope_56 : decode cX6_gatherEnvelope 56 = .ok (.iload 6, 2) := by decide +kernel
theorem dX6_gatherEnvelope_58 : decode cX6_gatherEnvelope 58 = .ok (.iaload, 1) := by decide +kernel
theorem dX6_gatherEnvelope_59 : decode cX6_gatherEnvelope 59 = .ok (.invokestatic 149, 3) := by decide +kernel
theorem dX6_gatherEnvelope_62 : decode cX6_gatherEnvelope 62 = .ok (.istore 7, 2) := by decide +kernel
theorem dX6_gatherEnvelope_64 : decode cX6_gatherEnvelope 64 = .ok (.iload_n 3, 1) := by decide +kernel
theorem dX6_gatherEnvelope_65 : decode cX6_gatherEnvelope 65 = .ok (.ifCond .ne 8, 3) := by decide +kernel
theorem dX6_gatherEnvelope_73 : decode cX6_gatherEnvelope 73 = .ok (.iconst 1, 1) := by decide +kernel
theorem dX6_gatherEnvelope_74 : decode cX6_gatherEnvelope 74 = .ok (.goto 4, 3) := by decide +kernel
theorem dX6_gatherEnvelope_68 : decode cX6_gatherEnvelope 68 = .ok (.iload 7, 2) := by decide +kernel
theorem dX6_gatherEnvelope_70 : decode cX6_gatherEnvelope 70 = .ok (.ifCond .ne 7, 3) := by decide +kernel
theorem dX6_gatherEnvelope_77 : decode cX6_gatherEnvelope 77 = .ok (.iconst 0, 1) := by decide +kernel
theorem dX6_gatherEnvelope_0 : decode cX6_gatherEnvelope 0 = .ok (.iconst 0, 1) := by decide +kernel
theorem dX6_gatherEnvelope_1 : decode cX6_gatherEnvelope 1 = .ok (.istore_n 3, 1) := by decide +kernel
theorem dX6_gatherEnvelope_2 : decode cX6_gatherEnvelope 2 = .ok (.iconst 0, 1) := by decide +kernel
theorem dX6_gatherEnvelope_3 : decode cX6_gatherEnvelope 3 = .ok (.istore 4, 2) := by decide +kernel
theorem dX6_gatherEnvelope_5 : decode cX6_gatherEnvelope 5 = .ok (.iconst 0, 1) := by decide +kernel
theorem dX6_gatherEnvelope_6 : decode cX6_gatherEnvelope 6 = .ok (.istore 5, 2) := by decide +kernel
def fb_X6_gatherEnvelope_122  (x2 : Int32) (b4 : Bool) (s : uS) : Option uS := if b4 = true then ((fn_X9_addFrom 1062 1047 x2 s).bind fun s2 => some s2) else (some s)
set_option maxRecDepth 100000 in
set_option maxHeartbeats 4000000 in
theorem xb_X6_gatherEnvelope_122 {l : Launch} {D : va_G} {A : Nat → ClassId} {B : Nat} {Z : State → Heap → Prop} {vF : Value} (uk : uK B Z vF) (un : uX A B Z)   {x2 : Int32} {b4 : Bool} {s : uS} {r : uS}  (h : fb_X6_gatherEnvelope_122  x2 b4 s = some r) : GU l D A B Z mX6_gatherEnvelope 5 (r, none) s 122 [(0, .ref (B + 1053)), (2, .int x2), (4, .int (bI b4))] [] := by
  unfold fb_X6_gatherEnvelope_122 at h
  refine uu_iload dX6_gatherEnvelope_122 (List.mem_of_getElem? (i := 2) rfl) ?_
  refine uu_ifb_eq (tgt := 142) dX6_gatherEnvelope_124 (by decide) (fun c1 => ?_) (fun c1 => ?_)
  · replace h := uu_neg c1 h
    have hr := Option.some.inj h
    subst hr
    exact uu_vret rfl dX6_gatherEnvelope_142
  · replace h := uu_pos c1 h
    refine uu_aload_n dX6_gatherEnvelope_127 rfl (List.mem_of_getElem? (i := 0) rfl) ?_
    refine uu_geta (ci := 6) (N := 6) fX6_21 (by decide) so_1053.is (by decide) (c := 1062) (by decide) dX6_gatherEnvelope_128 ?_
    refine uu_aload_n dX6_gatherEnvelope_131 rfl (List.mem_of_getElem? (i := 0) rfl) ?_
    refine uu_geta (ci := 6) (N := 6) fX6_27 (by decide) so_1053.is (by decide) (c := 1042) (by decide) dX6_gatherEnvelope_132 ?_
    refine uu_geta (ci := 0) (N := 12) fX6_156 (by decide) so_1042.is (by decide) (c := 1047) (by decide) dX6_gatherEnvelope_135 ?_
    refine uu_iload_n dX6_gatherEnvelope_138 rfl (List.mem_of_getElem? (i := 1) rfl) ?_
    obtain ⟨s2, e3, h⟩ := uu_ob h
    refine uu_cv (d1 := 2) (k := 1062) (ci := 9) (T := TX9) (N := 6) (As := [.ref (B + 1047), .int x2]) (st := []) (st' := []) (xc_X9_addFrom uk un so_1062 so_1047 e3) so_1062.is (by decide) rfl kX9_addFrom lX6_111 sX9_addFrom (by decide) (Nat.le_of_ble_eq_true rfl) dX6_gatherEnvelope_139 rfl ?_
    have hr := Option.some.inj h
    subst hr
    exact uu_vret rfl dX6_gatherEnvelope_142
def fb_X6_gatherEnvelope_78 (K8 : Nat → Int32 → Bool → Bool → Int32 → uS → Option uS) (k1 : Nat) (x2 : Int32) (b4 : Bool) (x5 : Int32) (x7 : Int32) (bs0 : Bool) (s : uS) : Option uS := if b4 = true then (K8 k1 x2 bs0 true (x5 + 1) s) else (if x7 = 1 then (K8 k1 x2 bs0 true (x5 + 1) s) else (K8 k1 x2 bs0 false (x5 + 1) s))
set_option maxRecDepth 100000 in
set_option maxHeartbeats 4000000 in
theorem xb_X6_gatherEnvelope_78 {l : Launch} {D : va_G} {A : Nat → ClassId} {B : Nat} {Z : State → Heap → Prop} {vF : Value} (uk : uK B Z vF) (un : uX A B Z) {K8 : Nat → Int32 → Bool → Bool → Int32 → uS → Option uS} (hK8 : ∀ (k1 : Nat) (x2 : Int32) (b3 : Bool) (b4 : Bool) (x5 : Int32) (hk1 : uSo k1 3) (s : uS) (r : uS), K8 k1 x2 b3 b4 x5 s = some r → GU l D A B Z mX6_gatherEnvelope 5 (r, none) s 8 [(0, .ref (B + 1053)), (1, .ref (B + k1)), (2, .int x2), (3, .int (bI b3)), (4, .int (bI b4)), (5, .int x5)] []) {k1 : Nat} {x2 : Int32} {b4 : Bool} {x5 : Int32} {x7 : Int32} {bs0 : Bool} {s : uS} {r : uS} (hk1 : uSo k1 3) (h : fb_X6_gatherEnvelope_78 K8 k1 x2 b4 x5 x7 bs0 s = some r) : GU l D A B Z mX6_gatherEnvelope 5 (r, none) s 78 [(0, .ref (B + 1053)), (1, .ref (B + k1)), (2, .int x2), (4, .int (bI b4)), (5, .int x5), (7, .int x7)] [.int (bI bs0)] := by
  unfold fb_X6_gatherEnvelope_78 at h
  refine uu_istore_n dX6_gatherEnvelope_78 rfl (by decide) rfl ?_
  refine uu_iload dX6_gatherEnvelope_79 (List.mem_of_getElem? (i := 4) rfl) ?_
  refine uu_ifb_ne (tgt := 90) dX6_gatherEnvelope_81 (by decide) (fun c1 => ?_) (fun c1 => ?_)
  · replace h := uu_pos c1 h
    refine uu_iconst (v := 1) dX6_gatherEnvelope_90 (by decide) ?_
    refine uu_goto (tgt := 95) dX6_gatherEnvelope_91 (by decide) ?_
    refine uu_istore dX6_gatherEnvelope_95 (by decide) rfl ?_
    refine uu_iinc (v := x5 + 1) dX6_gatherEnvelope_97 (k := 5) rfl rfl (by decide) rfl ?_
    refine uu_goto (tgt := 8) dX6_gatherEnvelope_100 (by decide) ?_
    refine uu_lv [3, 4, 5, 2, 1, 0] (lv' := [(0, .ref (B + 1053)), (1, .ref (B + k1)), (2, .int x2), (3, .int (bI bs0)), (4, .int 1), (5, .int (x5 + 1))]) rfl ?_
    exact hK8 k1 x2 bs0 true (x5 + 1) hk1 _ _ h
  · replace h := uu_neg c1 h
    refine uu_iload dX6_gatherEnvelope_84 (List.mem_of_getElem? (i := 6) rfl) ?_
    refine uu_iconst (v := 1) dX6_gatherEnvelope_86 (by decide) ?_
    refine uu_icmp_ne (tgt := 94) dX6_gatherEnvelope_87 (by decide) (fun c2 => ?_) (fun c2 => ?_)
    · replace h := uu_neg c2 h
      refine uu_iconst (v := 0) dX6_gatherEnvelope_94 (by decide) ?_
      refine uu_istore dX6_gatherEnvelope_95 (by decide) rfl ?_
      refine uu_iinc (v := x5 + 1) dX6_gatherEnvelope_97 (k := 5) rfl rfl (by decide) rfl ?_
      refine uu_goto (tgt := 8) dX6_gatherEnvelope_100 (by decide) ?_
      refine uu_lv [3, 4, 5, 2, 1, 0] (lv' := [(0, .ref (B + 1053)), (1, .ref (B + k1)), (2, .int x2), (3, .int (bI bs0)), (4, .int 0), (5, .int (x5 + 1))]) rfl ?_
      exact hK8 k1 x2 bs0 false (x5 + 1) hk1 _ _ h
    · replace h := uu_pos c2 h
      refine uu_iconst (v := 1) dX6_gatherEnvelope_90 (by decide) ?_
      refine uu_goto (tgt := 95) dX6_gatherEnvelope_91 (by decide) ?_
      refine uu_istore dX6_gatherEnvelope_95 (by decide) rfl ?_
      refine uu_iinc (v := x5 + 1) dX6_gatherEnvelope_97 (k := 5) rfl rfl (by decide) rfl ?_
      refine uu_goto (tgt := 8) dX6_gatherEnvelope_100 (by decide) ?_
      refine uu_lv [3, 4, 5, 2, 1, 0] (lv' := [(0, .ref (B + 1053)), (1, .ref (B + k1)), (2, .int x2), (3, .int (bI bs0)), (4, .int 1), (5, .int (x5 + 1))]) rfl ?_
      exact hK8 k1 x2 bs0 true (x5 + 1) hk1 _ _ h
def fb_X6_gatherEnvelope_8 (K8 : Nat → Int32 → Bool → Bool → Int32 → uS → Option uS) (k1 : Nat) (x2 : Int32) (b3 : Bool) (b4 : Bool) (x5 : Int32) (s : uS) : Option uS := (iget 20 s (k1 + 2) 0).bind fun v1 => if v1 ≤ x5 then (if b3 = true then ((fn_X9_addFrom 1062 1043 0 s).bind fun s5 => fb_X6_gatherEnvelope_122 x2 b4 s5) else (fb_X6_gatherEnvelope_122 x2 b4 s)) else ((iget 20 s (k1 + 1) 0).bind fun v7 => (iget 20 s 10 (v7 + x5)).bind fun v10 => (iget 20 s 11 (v7 + x5)).bind fun v12 => (fn_X9_place kW_50 9 v10 v12 s).bind fun v14 => if b3 = true then (fb_X6_gatherEnvelope_78 K8 k1 x2 b4 x5 v14 true s) else (if v14 = 0 then (fb_X6_gatherEnvelope_78 K8 k1 x2 b4 x5 v14 true s) else (fb_X6_gatherEnvelope_78 K8 k1 x2 b4 x5 v14 false s)))
set_option maxRecDepth 100000 in
set_option maxHeartbeats 4000000 in
theorem xb_X6_gatherEnvelope_8 {l : Launch} {D : va_G} {A : Nat → ClassId} {B : Nat} {Z : State → Heap → Prop} {vF : Value} (uk : uK B Z vF) (un : uX A B Z) {K8 : Nat → Int32 → Bool → Bool → Int32 → uS → Option uS} (hK8 : ∀ (k1 : Nat) (x2 : Int32) (b3 : Bool) (b4 : Bool) (x5 : Int32) (hk1 : uSo k1 3) (s : uS) (r : uS), K8 k1 x2 b3 b4 x5 s = some r → GU l D A B Z mX6_gatherEnvelope 5 (r, none) s 8 [(0, .ref (B + 1053)), (1, .ref (B + k1)), (2, .int x2), (3, .int (bI b3)), (4, .int (bI b4)), (5, .int x5)] []) {k1 : Nat} {x2 : Int32} {b3 : Bool} {b4 : Bool} {x5 : Int32} {s : uS} {r : uS} (hk1 : uSo k1 3) (h : fb_X6_gatherEnvelope_8 K8 k1 x2 b3 b4 x5 s = some r) : GU l D A B Z mX6_gatherEnvelope 5 (r, none) s 8 [(0, .ref (B + 1053)), (1, .ref (B + k1)), (2, .int x2), (3, .int (bI b3)), (4, .int (bI b4)), (5, .int x5)] [] := by
  unfold fb_X6_gatherEnvelope_8 at h
  refine uu_iload dX6_gatherEnvelope_8 (List.mem_of_getElem? (i := 5) rfl) ?_
  refine uu_aload_n dX6_gatherEnvelope_10 rfl (List.mem_of_getElem? (i := 1) rfl) ?_
  refine uu_getc (ci := 3) (N := 15) fX6_140 (by decide) hk1.is (by decide) (c := 2) (by decide) (k2 := k1 + 2) rfl dX6_gatherEnvelope_11 ?_
  refine uu_iconst (v := 0) dX6_gatherEnvelope_14 (by decide) ?_
  obtain ⟨v1, e2, h⟩ := uu_ob h
  refine uu_iald e2 dX6_gatherEnvelope_15 ?_
  refine uu_icmp_ge (tgt := 103) dX6_gatherEnvelope_16 (by decide) (fun c3 => ?_) (fun c3 => ?_)
  · replace h := uu_pos c3 h
    refine uu_iload_n dX6_gatherEnvelope_103 rfl (List.mem_of_getElem? (i := 3) rfl) ?_
    refine uu_ifb_eq (tgt := 122) dX6_gatherEnvelope_104 (by decide) (fun c4 => ?_) (fun c4 => ?_)
    · replace h := uu_neg c4 h
      refine uu_lv [0, 2, 4] (lv' := [(0, .ref (B + 1053)), (2, .int x2), (4, .int (bI b4))]) rfl ?_
      exact xb_X6_gatherEnvelope_122 uk un  h
    · replace h := uu_pos c4 h
      refine uu_aload_n dX6_gatherEnvelope_107 rfl (List.mem_of_getElem? (i := 0) rfl) ?_
      refine uu_geta (ci := 6) (N := 6) fX6_21 (by decide) so_1053.is (by decide) (c := 1062) (by decide) dX6_gatherEnvelope_108 ?_
      refine uu_aload_n dX6_gatherEnvelope_111 rfl (List.mem_of_getElem? (i := 0) rfl) ?_
      refine uu_geta (ci := 6) (N := 6) fX6_27 (by decide) so_1053.is (by decide) (c := 1042) (by decide) dX6_gatherEnvelope_112 ?_
      refine uu_geta (ci := 0) (N := 12) fX6_153 (by decide) so_1042.is (by decide) (c := 1043) (by decide) dX6_gatherEnvelope_115 ?_
      refine uu_iconst (v := 0) dX6_gatherEnvelope_118 (by decide) ?_
      obtain ⟨s5, e6, h⟩ := uu_ob h
      refine uu_cv (d1 := 2) (k := 1062) (ci := 9) (T := TX9) (N := 6) (As := [.ref (B + 1043), .int 0]) (st := []) (st' := []) (xc_X9_addFrom uk un so_1062 so_1043 e6) so_1062.is (by decide) rfl kX9_addFrom lX6_111 sX9_addFrom (by decide) (Nat.le_of_ble_eq_true rfl) dX6_gatherEnvelope_119 rfl ?_
      refine uu_lv [0, 2, 4] (lv' := [(0, .ref (B + 1053)), (2, .int x2), (4, .int (bI b4))]) rfl ?_
      exact xb_X6_gatherEnvelope_122 uk un  h
  · replace h := uu_neg c3 h
    refine uu_aload_n dX6_gatherEnvelope_19 rfl (List.mem_of_getElem? (i := 1) rfl) ?_
    refine uu_getc (ci := 3) (N := 15) fX6_137 (by decide) hk1.is (by decide) (c := 1) (by decide) (k2 := k1 + 1) rfl dX6_gatherEnvelope_20 ?_
    refine uu_iconst (v := 0) dX6_gatherEnvelope_23 (by decide) ?_
    obtain ⟨v7, e8, h⟩ := uu_ob h
    refine uu_iald e8 dX6_gatherEnvelope_24 ?_
    refine uu_iload dX6_gatherEnvelope_25 (List.mem_of_getElem? (i := 5) rfl) ?_
    refine uu_iadd dX6_gatherEnvelope_27 ?_
    refine uu_istore dX6_gatherEnvelope_28 (by decide) rfl ?_
    obtain ⟨cq9, cp9, cv9, cw9⟩ := uk.2.1 50 _ rfl
    refine uu_ldcS cv9 dX6_gatherEnvelope_30 ?_
    refine uu_aload_n dX6_gatherEnvelope_32 rfl (List.mem_of_getElem? (i := 1) rfl) ?_
    refine uu_geta (ci := 6) (N := 6) fX6_31 (by decide) so_1053.is (by decide) (c := 8) (by decide) dX6_gatherEnvelope_33 ?_
    refine uu_getc (ci := 9) (N := 6) fX6_82 (by decide) so_8.is (by decide) (c := 1) (by decide) (k2 := 9) rfl dX6_gatherEnvelope_36 ?_
    refine uu_aload_n dX6_gatherEnvelope_39 rfl (List.mem_of_getElem? (i := 1) rfl) ?_
    refine uu_geta (ci := 6) (N := 6) fX6_31 (by decide) so_1053.is (by decide) (c := 8) (by decide) dX6_gatherEnvelope_40 ?_
    refine uu_getc (ci := 9) (N := 6) fX6_79 (by decide) so_8.is (by decide) (c := 2) (by decide) (k2 := 10) rfl dX6_gatherEnvelope_43 ?_
    refine uu_iload dX6_gatherEnvelope_46 (List.mem_of_getElem? (i := 0) rfl) ?_
    obtain ⟨v10, e11, h⟩ := uu_ob h
    refine uu_iald e11 dX6_gatherEnvelope_48 ?_
    refine uu_aload_n dX6_gatherEnvelope_49 rfl (List.mem_of_getElem? (i := 1) rfl) ?_
    refine uu_geta (ci := 6) (N := 6) fX6_31 (by decide) so_1053.is (by decide) (c := 8) (by decide) dX6_gatherEnvelope_50 ?_
    refine uu_getc (ci := 9) (N := 6) fX6_75 (by decide) so_8.is (by decide) (c := 3) (by decide) (k2 := 11) rfl dX6_gatherEnvelope_53 ?_
    refine uu_iload dX6_gatherEnvelope_56 (List.mem_of_getElem? (i := 0) rfl) ?_
    obtain ⟨v12, e13, h⟩ := uu_ob h
    refine uu_iald e13 dX6_gatherEnvelope_58 ?_
    obtain ⟨v14, e15, h⟩ := uu_ob h
    refine uu_cs (d1 := 4) (As := [.ref cq9, .ref (B + 9), .int v10, .int v12]) (st := []) (st' := [.int v14]) (xc_X9_place uk cw9 e15) kX9_place lX6_149 sX9_place (by decide) (Nat.le_of_ble_eq_true rfl) dX6_gatherEnvelope_59 rfl ?_
    refine uu_istore dX6_gatherEnvelope_62 (by decide) rfl ?_
    refine uu_iload_n dX6_gatherEnvelope_64 rfl (List.mem_of_getElem? (i := 5) rfl) ?_
    refine uu_ifb_ne (tgt := 73) dX6_gatherEnvelope_65 (by decide) (fun c16 => ?_) (fun c16 => ?_)
    · replace h := uu_pos c16 h
      refine uu_iconst (v := 1) dX6_gatherEnvelope_73 (by decide) ?_
      refine uu_goto (tgt := 78) dX6_gatherEnvelope_74 (by decide) ?_
      refine uu_lv [2, 3, 4, 6, 7, 0] (lv' := [(0, .ref (B + 1053)), (1, .ref (B + k1)), (2, .int x2), (4, .int (bI b4)), (5, .int x5), (7, .int v14)]) rfl ?_
      exact xb_X6_gatherEnvelope_78 uk un hK8 hk1 h
    · replace h := uu_neg c16 h
      refine uu_iload dX6_gatherEnvelope_68 (List.mem_of_getElem? (i := 0) rfl) ?_
      refine uu_if_ne (tgt := 77) dX6_gatherEnvelope_70 (by decide) (fun c17 => ?_) (fun c17 => ?_)
      · replace h := uu_neg c17 h
        refine uu_iconst (v := 0) dX6_gatherEnvelope_77 (by decide) ?_
        refine uu_lv [2, 3, 4, 6, 7, 0] (lv' := [(0, .ref (B + 1053)), (1, .ref (B + k1)), (2, .int x2), (4, .int (bI b4)), (5, .int x5), (7, .int v14)]) rfl ?_
        exact xb_X6_gatherEnvelope_78 uk un hK8 hk1 h
      · replace h := uu_pos c17 h
        refine uu_iconst (v := 1) dX6_gatherEnvelope_73 (by decide) ?_
        refine uu_goto (tgt := 78) dX6_gatherEnvelope_74 (by decide) ?_
        refine uu_lv [2, 3, 4, 6, 7, 0] (lv' := [(0, .ref (B + 1053)), (1, .ref (B + k1)), (2, .int x2), (4, .int (bI b4)), (5, .int x5), (7, .int v14)]) rfl ?_
        exact xb_X6_gatherEnvelope_78 uk un hK8 hk1 h
def fn_X6_gatherEnvelope_8  : Nat → Nat → Int32 → Bool → Bool → Int32 → uS → Option uS
  | 0 => fun _ _ _ _ _ _ => none
  | n + 1 => fb_X6_gatherEnvelope_8 (fn_X6_gatherEnvelope_8  n)
set_option maxRecDepth 100000 in
set_option maxHeartbeats 4000000 in
theorem xn_X6_gatherEnvelope_8 {l : Launch} {D : va_G} {A : Nat → ClassId} {B : Nat} {Z : State → Heap → Prop} {vF : Value} (uk : uK B Z vF) (un : uX A B Z)   : ∀ (n : Nat) (k1 : Nat) (x2 : Int32) (b3 : Bool) (b4 : Bool) (x5 : Int32) (hk1 : uSo k1 3) (s : uS) (r : uS), fn_X6_gatherEnvelope_8  n k1 x2 b3 b4 x5 s = some r → GU l D A B Z mX6_gatherEnvelope 5 (r, none) s 8 [(0, .ref (B + 1053)), (1, .ref (B + k1)), (2, .int x2), (3, .int (bI b3)), (4, .int (bI b4)), (5, .int x5)] [] := by
  intro n
  induction n with
  | zero => intro k1 x2 b3 b4 x5 hk1 s r h
            cases h
  | succ n ih => intro k1 x2 b3 b4 x5 hk1 s r h
                 exact xb_X6_gatherEnvelope_8 uk un ih hk1 h
def fn_X6_gatherEnvelope (k1 : Nat) (x2 : Int32) (s : uS) : Option uS := fn_X6_gatherEnvelope_8 uFu k1 x2 false false 0 s
set_option maxRecDepth 100000 in
set_option maxHeartbeats 4000000 in
theorem xc_X6_gatherEnvelope {l : Launch} {D : va_G} {A : Nat → ClassId} {B : Nat} {Z : State → Heap → Prop} {vF : Value} (uk : uK B Z vF) (un : uX A B Z) {k1 : Nat} {x2 : Int32} {s : uS} {r : uS} (hk1 : uSo k1 3) (h : fn_X6_gatherEnvelope k1 x2 s = some r) : CU l D A B Z 5 mX6_gatherEnvelope s [.ref (B + 1053), .ref (B + k1), .int x2] (r, none) := by
  unfold fn_X6_gatherEnvelope at h
  refine cu_of rfl uk.1.1 (Nat.le_of_ble_eq_true rfl) ?_
  show GU _ _ _ _ _ _ _ _ _ 0 [(0, .ref (B + 1053)), (1, .ref (B + k1)), (2, .int x2)] []
  refine uu_iconst (v := 0) dX6_gatherEnvelope_0 (by decide) ?_
  refine uu_istore_n dX6_gatherEnvelope_1 rfl (by decide) rfl ?_
  refine uu_iconst (v := 0) dX6_gatherEnvelope_2 (by decide) ?_
  refine uu_istore dX6_gatherEnvelope_3 (by decide) rfl ?_
  refine uu_iconst (v := 0) dX6_gatherEnvelope_5 (by decide) ?_
  refine uu_istore dX6_gatherEnvelope_6 (by decide) rfl ?_
  refine uu_lv [3, 4, 5, 2, 1, 0] (lv' := [(0, .ref (B + 1053)), (1, .ref (B + k1)), (2, .int x2), (3, .int 0), (4, .int 0), (5, .int 0)]) rfl ?_
  exact xn_X6_gatherEnvelope_8 uk un  _ _ _ _ _ _ hk1 _ _ h
abbrev mX6_gather : hM := (yX6_gather, cX6_gather, 5, none)
theorem dX6_gather_158 : decode cX6_gather 158 = .ok (.aload_n 1, 1) := by decide +kernel
theorem fX6_131 : h_fl RX6 131 3 8 RX3 TX3 15 := ⟨rfl, by decide, inX3, h_t1 171 rfl rfl⟩
theorem dX6_gather_159 : decode cX6_gather 159 = .ok (.getfield 131, 3) := by decide +kernel
theorem dX6_gather_162 : decode cX6_gather 162 = .ok (.ifCond .ne 37, 3) := by decide +kernel
theorem dX6_gather_199 : decode cX6_gather 199 = .ok (.return_, 1) := by decide +kernel
theorem dX6_gather_165 : decode cX6_gather 165 = .ok (.aload_n 0, 1) := by decide +kernel
theorem dX6_gather_166 : decode cX6_gather 166 = .ok (.getfield 21, 3) := by decide +kernel
theorem dX6_gather_169 : decode cX6_gather 169 = .ok (.iconst 0, 1) := by decide +kernel
theorem dX6_gather_170 : decode cX6_gather 170 = .ok (.aload_n 0, 1) := by decide +kernel
theorem dX6_gather_171 : decode cX6_gather 171 = .ok (.getfield 21, 3) := by decide +kernel
theorem dX6_gather_174 : decode cX6_gather 174 = .ok (.getfield 62, 3) := by decide +kernel
theorem kX9_raise : h_ml mX9_raise 2 := ⟨h_t5 190 rfl rfl, h_t1 4 rfl rfl, ⟨by decide, by decide, by decide +kernel⟩, by decide⟩
theorem lX6_134 : Cond.methodLink RX6 134 mX9_raise.1 ∈ lw_g := h_t5 187 rfl rfl
theorem sX9_raise : Cond.instanceMethod mX9_raise.1 ∈ lw_g ∧ Cond.selects mX9_raise.1.cls mX9_raise.1 mX9_raise.1 ∈ lw_g := ⟨h_t5 188 rfl rfl, h_t5 189 rfl rfl⟩
theorem dX6_gather_177 : decode cX6_gather 177 = .ok (.invokevirtual 134, 3) := by decide +kernel
theorem dX6_gather_180 : decode cX6_gather 180 = .ok (.aload_n 0, 1) := by decide +kernel
theorem dX6_gather_181 : decode cX6_gather 181 = .ok (.getfield 31, 3) := by decide +kernel
theorem dX6_gather_184 : decode cX6_gather 184 = .ok (.aload_n 1, 1) := by decide +kernel
theorem dX6_gather_185 : decode cX6_gather 185 = .ok (.getfield 137, 3) := by decide +kernel
theorem dX6_gather_188 : decode cX6_gather 188 = .ok (.iconst 1, 1) := by decide +kernel
theorem dX6_gather_189 : decode cX6_gather 189 = .ok (.iaload, 1) := by decide +kernel
theorem dX6_gather_190 : decode cX6_gather 190 = .ok (.aload_n 1, 1) := by decide +kernel
theorem dX6_gather_191 : decode cX6_gather 191 = .ok (.getfield 140, 3) := by decide +kernel
theorem dX6_gather_194 : decode cX6_gather 194 = .ok (.iconst 1, 1) := by decide +kernel
theorem dX6_gather_195 : decode cX6_gather 195 = .ok (.iaload, 1) := by decide +kernel
theorem dX6_gather_196 : decode cX6_gather 196 = .ok (.invokevirtual 134, 3) := by decide +kernel
theorem dX6_gather_123 : decode cX6_gather 123 = .ok (.iload 4, 2) := by decide +kernel
theorem dX6_gather_125 : decode cX6_gather 125 = .ok (.aload_n 0, 1) := by decide +kernel
theorem dX6_gather_126 : decode cX6_gather 126 = .ok (.getfield 21, 3) := by decide +kernel
theorem dX6_gather_129 : decode cX6_gather 129 = .ok (.getfield 62, 3) := by decide +kernel
theorem dX6_gather_132 : decode cX6_gather 132 = .ok (.if_icmp .ge 26, 3) := by decide +kernel
theorem dX6_gather_135 : decode cX6_gather 135 = .ok (.aload_n 1, 1) := by decide +kernel
theorem fX6_125 : h_fl RX6 125 3 9 RX3 TX3 15 := ⟨rfl, by decide, inX3, h_t1 174 rfl rfl⟩
theorem dX6_gather_136 : decode cX6_gather 136 = .ok (.getfield 125, 3) := by decide +kernel
theorem dX6_gather_139 : decode cX6_gather 139 = .ok (.ifCond .eq 19, 3) := by decide +kernel
theorem dX6_gather_142 : decode cX6_gather 142 = .ok (.aload_n 0, 1) := by decide +kernel
theorem dX6_gather_143 : decode cX6_gather 143 = .ok (.iload 4, 2) := by decide +kernel
theorem dX6_gather_145 : decode cX6_gather 145 = .ok (.aload_n 1, 1) := by decide +kernel
theorem dX6_gather_146 : decode cX6_gather 146 = .ok (.getfield 125, 3) := by decide +kernel
theorem kX6_narrow : h_ml mX6_narrow 2 := ⟨h_t5 185 rfl rfl, h_t1 14 rfl rfl, ⟨by decide, by decide, by decide +kernel⟩, by decide⟩
theorem lX6_128 : Cond.methodLink RX6 128 mX6_narrow.1 ∈ lw_g := h_t5 182 rfl rfl
theorem sX6_narrow : Cond.instanceMethod mX6_narrow.1 ∈ lw_g ∧ Cond.selects mX6_narrow.1.cls mX6_narrow.1 mX6_narrow.1 ∈ lw_g := ⟨h_t5 184 rfl rfl, h_ins 52 rfl⟩
theorem dX6_gather_149 : decode cX6_gather 149 = .ok (.invokevirtual 128, 3) := by decide +kernel
theorem dX6_gather_152 : decode cX6_gather 152 = .ok (.iinc 4 1, 3) := by decide +kernel
theorem dX6_gather_155 : decode cX6_gather 155 = .ok (.goto (-32), 3) := by decide +kernel
theorem dX6_gather_57 : decode cX6_gather 57 = .ok (.aload_n 1, 1) := by decide +kernel
theorem dX6_gather_58 : decode cX6_gather 58 = .ok (.getfield 102, 3) := by decide +kernel
theorem dX6_gather_61 : decode cX6_gather 61 = .ok (.bipush 12, 2) := by decide +kernel
theorem dX6_gather_63 : decode cX6_gather 63 = .ok (.if_icmp .ne 19, 3) := by decide +kernel
theorem dX6_gather_82 : decode cX6_gather 82 = .ok (.iinc 4 1, 3) := by decide +kernel
theorem dX6_gather_85 : decode cX6_gather 85 = .ok (.goto (-75), 3) := by decide +kernel
theorem dX6_gather_66 : decode cX6_gather 66 = .ok (.aload_n 0, 1) := by decide +kernel
theorem dX6_gather_67 : decode cX6_gather 67 = .ok (.aload_n 1, 1) := by decide +kernel
theorem dX6_gather_68 : decode cX6_gather 68 = .ok (.iload 4, 2) := by decide +kernel
theorem kX6_isListed : h_ml mX6_isListed 2 := ⟨h_t5 144 rfl rfl, h_t1 14 rfl rfl, ⟨by decide, by decide, by decide +kernel⟩, by decide⟩
theorem lX6_107 : Cond.methodLink RX6 107 mX6_isListed.1 ∈ lw_g := h_t5 141 rfl rfl
theorem sX6_isListed : Cond.instanceMethod mX6_isListed.1 ∈ lw_g ∧ Cond.selects mX6_isListed.1.cls mX6_isListed.1 mX6_isListed.1 ∈ lw_g := ⟨h_t5 143 rfl rfl, h_ins 47 rfl⟩
theorem dX6_gather_70 : decode cX6_gather 70 = .ok (.invokevirtual 107, 3) := by decide +kernel
theorem dX6_gather_73 : decode cX6_gather 73 = .ok (.ifCond .eq 9, 3) := by decide +kernel
theorem dX6_gather_76 : decode cX6_gather 76 = .ok (.aload_n 0, 1) := by decide +kernel
theorem dX6_gather_77 : decode cX6_gather 77 = .ok (.iload 4, 2) := by decide +kernel
theorem kX6_findAddresses : h_ml mX6_findAddresses 1 := ⟨h_t5 162 rfl rfl, h_t1 14 rfl rfl, ⟨by decide, by decide, by decide +kernel⟩, by decide⟩
theorem lX6_115 : Cond.methodLink RX6 115 mX6_findAddresses.1 ∈ lw_g := h_t5 159 rfl rfl
theorem sX6_findAddresses : Cond.instanceMethod mX6_findAddresses.1 ∈ lw_g ∧ Cond.selects mX6_findAddresses.1.cls mX6_findAddresses.1 mX6_findAddresses.1 ∈ lw_g := ⟨h_t5 161 rfl rfl, h_ins 49 rfl⟩
theorem dX6_gather_79 : decode cX6_gather 79 = .ok (.invokevirtual 115, 3) := by decide +kernel
theorem dX6_gather_10 : decode cX6_gather 10 = .ok (.iload 4, 2) := by decide +kernel
theorem dX6_gather_12 : decode cX6_gather 12 = .ok (.aload_n 0, 1) := by decide +kernel
theorem dX6_gather_13 : decode cX6_gather 13 = .ok (.getfield 14, 3) := by decide +kernel
theorem dX6_gather_16 : decode cX6_gather 16 = .ok (.getfield 62, 3) := by decide +kernel
theorem dX6_gather_19 : decode cX6_gather 19 = .ok (.if_icmp .ge 69, 3) := by decide +kernel
theorem dX6_gather_88 : decode cX6_gather 88 = .ok (.aload_n 1, 1) := by decide +kernel
theorem dX6_gather_89 : decode cX6_gather 89 = .ok (.getfield 102, 3) := by decide +kernel
theorem dX6_gather_92 : decode cX6_gather 92 = .ok (.bipush 13, 2) := by decide +kernel
theorem dX6_gather_94 : decode cX6_gather 94 = .ok (.if_icmp .ne 12, 3) := by decide +kernel
theorem dX6_gather_106 : decode cX6_gather 106 = .ok (.aload_n 1, 1) := by decide +kernel
theorem dX6_gather_107 : decode cX6_gather 107 = .ok (.getfield 102, 3) := by decide +kernel
theorem dX6_gather_110 : decode cX6_gather 110 = .ok (.bipush 14, 2) := by decide +kernel
theorem dX6_gather_112 : decode cX6_gather 112 = .ok (.if_icmp .ne 8, 3) := by decide +kernel
theorem dX6_gather_120 : decode cX6_gather 120 = .ok (.iconst 0, 1) := by decide +kernel
theorem dX6_gather_121 : decode cX6_gather 121 = .ok (.istore 4, 2) := by decide +kernel
theorem dX6_gather_115 : decode cX6_gather 115 = .ok (.aload_n 0, 1) := by decide +kernel
theorem dX6_gather_116 : decode cX6_gather 116 = .ok (.iload_n 3, 1) := by decide +kernel
theorem kX6_gatherFlags : h_ml mX6_gatherFlags 1 := ⟨h_t5 178 rfl rfl, h_t1 14 rfl rfl, ⟨by decide, by decide, by decide +kernel⟩, by decide⟩
theorem lX6_122 : Cond.methodLink RX6 122 mX6_gatherFlags.1 ∈ lw_g := h_t5 175 rfl rfl
theorem sX6_gatherFlags : Cond.instanceMethod mX6_gatherFlags.1 ∈ lw_g ∧ Cond.selects mX6_gatherFlags.1.cls mX6_gatherFlags.1 mX6_gatherFlags.1 ∈ lw_g := ⟨h_t5 177 rfl rfl, h_ins 51 rfl⟩
theorem dX6_gather_117 : decode cX6_gather 117 = .ok (.invokevirtual 122, 3) := by decide +kernel
theorem dX6_gather_97 : decode cX6_gather 97 = .ok (.aload_n 0, 1) := by decide +kernel
theorem dX6_gather_98 : decode cX6_gather 98 = .ok (.aload_n 1, 1) := by decide +kernel
theorem dX6_gather_99 : decode cX6_gather 99 = .ok (.iload_n 2, 1) := by decide +kernel
theorem kX6_gatherEnvelope : h_ml mX6_gatherEnvelope 2 := ⟨h_t5 172 rfl rfl, h_t1 14 rfl rfl, ⟨by decide, by decide, by decide +kernel⟩, by decide⟩
theorem lX6_118 : Cond.methodLink RX6 118 mX6_gatherEnvelope.1 ∈ lw_g := h_t5 169 rfl rfl
theorem sX6_gatherEnvelope : Cond.instanceMethod mX6_gatherEnvelope.1 ∈ lw_g ∧ Cond.selects mX6_gatherEnvelope.1.cls mX6_gatherEnvelope.1 mX6_gatherEnvelope.1 ∈ lw_g := ⟨h_t5 171 rfl rfl, h_ins 50 rfl⟩
theorem dX6_gather_100 : decode cX6_gather 100 = .ok (.invokevirtual 118, 3) := by decide +kernel
theorem dX6_gather_103 : decode cX6_gather 103 = .ok (.goto 17, 3) := by decide +kernel
theorem dX6_gather_22 : decode cX6_gather 22 = .ok (.aload_n 1, 1) := by decide +kernel
theorem dX6_gather_23 : decode cX6_gather 23 = .ok (.getfield 102, 3) := by decide +kernel
theorem dX6_gather_26 : decode cX6_gather 26 = .ok (.bipush 11, 2) := by decide +kernel
theorem dX6_gather_28 : decode cX6_gather 28 = .ok (.if_icmp .ne 29, 3) := by decide +kernel
theorem dX6_gather_31 : decode cX6_gather 31 = .ok (.aload_n 0, 1) := by decide +kernel
theorem dX6_gather_32 : decode cX6_gather 32 = .ok (.aload_n 1, 1) := by decide +kernel
theorem dX6_gather_33 : decode cX6_gather 33 = .ok (.iload 4, 2) := by decide +kernel
theorem dX6_gather_35 : decode cX6_gather 35 = .ok (.invokevirtual 107, 3) := by decide +kernel
theorem dX6_gather_38 : decode cX6_gather 38 = .ok (.ifCond .eq 19, 3) := by decide +kernel
theorem dX6_gather_41 : decode cX6_gather 41 = .ok (.aload_n 0, 1) := by decide +kernel
theorem dX6_gather_42 : decode cX6_gather 42 = .ok (.getfield 21, 3) := by decide +kernel
theorem dX6_gather_45 : decode cX6_gather 45 = .ok (.aload_n 0, 1) := by decide +kernel
theorem dX6_gather_46 : decode cX6_gather 46 = .ok (.getfield 18, 3) := by decide +kernel
theorem dX6_gather_49 : decode cX6_gather 49 = .ok (.iload 4, 2) := by decide +kernel
theorem dX6_gather_51 : decode cX6_gather 51 = .ok (.invokevirtual 111, 3) := by decide +kernel
theorem dX6_gather_54 : decode cX6_gather 54 = .ok (.goto 28, 3) := by decide +kernel
theorem dX6_gather_0 : decode cX6_gather 0 = .ok (.aload_n 0, 1) := by decide +kernel
theorem dX6_gather_1 : decode cX6_gather 1 = .ok (.getfield 21, 3) := by decide +kernel
theorem dX6_gather_4 : decode cX6_gather 4 = .ok (.invokevirtual 34, 3) := by decide +kernel
theorem dX6_gather_7 : decode cX6_gather 7 = .ok (.iconst 0, 1) := by decide +kernel
theorem dX6_gather_8 : decode cX6_gather 8 = .ok (.istore 4, 2) := by decide +kernel
def fb_X6_gather_158  (k1 : Nat) (s : uS) : Option uS := if (s.I k1 8) = 0 then ((fn_X9_raise 1062 0 (s.I 1062 3) s).bind fun s2 => (iget 20 s2 (k1 + 1) 1).bind fun v4 => (iget 20 s2 (k1 + 2) 1).bind fun v6 => (fn_X9_raise 8 v4 v6 s2).bind fun s8 => some s8) else (some s)
set_option maxRecDepth 100000 in
set_option maxHeartbeats 4000000 in
theorem xb_X6_gather_158 {l : Launch} {D : va_G} {A : Nat → ClassId} {B : Nat} {Z : State → Heap → Prop} {vF : Value} (uk : uK B Z vF) (un : uX A B Z)   {k1 : Nat} {s : uS} {r : uS} (hk1 : uSo k1 3) (h : fb_X6_gather_158  k1 s = some r) : GU l D A B Z mX6_gather 7 (r, none) s 158 [(0, .ref (B + 1053)), (1, .ref (B + k1))] [] := by
  unfold fb_X6_gather_158 at h
  refine uu_aload_n dX6_gather_158 rfl (List.mem_of_getElem? (i := 1) rfl) ?_
  refine uu_geti (ci := 3) (N := 15) fX6_131 (by decide) hk1.is (by decide) (by decide) dX6_gather_159 ?_
  refine uu_if_ne (tgt := 199) dX6_gather_162 (by decide) (fun c1 => ?_) (fun c1 => ?_)
  · replace h := uu_neg c1 h
    have hr := Option.some.inj h
    subst hr
    exact uu_vret rfl dX6_gather_199
  · replace h := uu_pos c1 h
    refine uu_aload_n dX6_gather_165 rfl (List.mem_of_getElem? (i := 0) rfl) ?_
    refine uu_geta (ci := 6) (N := 6) fX6_21 (by decide) so_1053.is (by decide) (c := 1062) (by decide) dX6_gather_166 ?_
    refine uu_iconst (v := 0) dX6_gather_169 (by decide) ?_
    refine uu_aload_n dX6_gather_170 rfl (List.mem_of_getElem? (i := 0) rfl) ?_
    refine uu_geta (ci := 6) (N := 6) fX6_21 (by decide) so_1053.is (by decide) (c := 1062) (by decide) dX6_gather_171 ?_
    refine uu_geti (ci := 9) (N := 6) fX6_62 (by decide) so_1062.is (by decide) (by decide) dX6_gather_174 ?_
    obtain ⟨s2, e3, h⟩ := uu_ob h
    refine uu_cv (d1 := 1) (k := 1062) (ci := 9) (T := TX9) (N := 6) (As := [.int 0, .int (s.I 1062 3)]) (st := []) (st' := []) (xc_X9_raise uk so_1062 e3) so_1062.is (by decide) rfl kX9_raise lX6_134 sX9_raise (by decide) (Nat.le_of_ble_eq_true rfl) dX6_gather_177 rfl ?_
    refine uu_aload_n dX6_gather_180 rfl (List.mem_of_getElem? (i := 0) rfl) ?_
    refine uu_geta (ci := 6) (N := 6) fX6_31 (by decide) so_1053.is (by decide) (c := 8) (by decide) dX6_gather_181 ?_
    refine uu_aload_n dX6_gather_184 rfl (List.mem_of_getElem? (i := 1) rfl) ?_
    refine uu_getc (ci := 3) (N := 15) fX6_137 (by decide) hk1.is (by decide) (c := 1) (by decide) (k2 := k1 + 1) rfl dX6_gather_185 ?_
    refine uu_iconst (v := 1) dX6_gather_188 (by decide) ?_
    obtain ⟨v4, e5, h⟩ := uu_ob h
    refine uu_iald e5 dX6_gather_189 ?_
    refine uu_aload_n dX6_gather_190 rfl (List.mem_of_getElem? (i := 1) rfl) ?_
    refine uu_getc (ci := 3) (N := 15) fX6_140 (by decide) hk1.is (by decide) (c := 2) (by decide) (k2 := k1 + 2) rfl dX6_gather_191 ?_
    refine uu_iconst (v := 1) dX6_gather_194 (by decide) ?_
    obtain ⟨v6, e7, h⟩ := uu_ob h
    refine uu_iald e7 dX6_gather_195 ?_
    obtain ⟨s8, e9, h⟩ := uu_ob h
    refine uu_cv (d1 := 1) (k := 8) (ci := 9) (T := TX9) (N := 6) (As := [.int v4, .int v6]) (st := []) (st' := []) (xc_X9_raise uk so_8 e9) so_8.is (by decide) rfl kX9_raise lX6_134 sX9_raise (by decide) (Nat.le_of_ble_eq_true rfl) dX6_gather_196 rfl ?_
    have hr := Option.some.inj h
    subst hr
    exact uu_vret rfl dX6_gather_199
def fb_X6_gather_123 (K123 : Nat → Int32 → uS → Option uS) (k1 : Nat) (x4 : Int32) (s : uS) : Option uS := if (s.I 1062 3) ≤ x4 then (fb_X6_gather_158 k1 s) else (if (s.I k1 9) = 0 then (fb_X6_gather_158 k1 s) else ((fn_X6_narrow x4 (s.I k1 9) s).bind fun s3 => K123 k1 (x4 + 1) s3))
set_option maxRecDepth 100000 in
set_option maxHeartbeats 4000000 in
theorem xb_X6_gather_123 {l : Launch} {D : va_G} {A : Nat → ClassId} {B : Nat} {Z : State → Heap → Prop} {vF : Value} (uk : uK B Z vF) (un : uX A B Z) {K123 : Nat → Int32 → uS → Option uS} (hK123 : ∀ (k1 : Nat) (x4 : Int32) (hk1 : uSo k1 3) (s : uS) (r : uS), K123 k1 x4 s = some r → GU l D A B Z mX6_gather 7 (r, none) s 123 [(0, .ref (B + 1053)), (1, .ref (B + k1)), (4, .int x4)] []) {k1 : Nat} {x4 : Int32} {s : uS} {r : uS} (hk1 : uSo k1 3) (h : fb_X6_gather_123 K123 k1 x4 s = some r) : GU l D A B Z mX6_gather 7 (r, none) s 123 [(0, .ref (B + 1053)), (1, .ref (B + k1)), (4, .int x4)] [] := by
  unfold fb_X6_gather_123 at h
  refine uu_iload dX6_gather_123 (List.mem_of_getElem? (i := 2) rfl) ?_
  refine uu_aload_n dX6_gather_125 rfl (List.mem_of_getElem? (i := 0) rfl) ?_
  refine uu_geta (ci := 6) (N := 6) fX6_21 (by decide) so_1053.is (by decide) (c := 1062) (by decide) dX6_gather_126 ?_
  refine uu_geti (ci := 9) (N := 6) fX6_62 (by decide) so_1062.is (by decide) (by decide) dX6_gather_129 ?_
  refine uu_icmp_ge (tgt := 158) dX6_gather_132 (by decide) (fun c1 => ?_) (fun c1 => ?_)
  · replace h := uu_pos c1 h
    refine uu_lv [0, 1] (lv' := [(0, .ref (B + 1053)), (1, .ref (B + k1))]) rfl ?_
    exact xb_X6_gather_158 uk un hk1 h
  · replace h := uu_neg c1 h
    refine uu_aload_n dX6_gather_135 rfl (List.mem_of_getElem? (i := 1) rfl) ?_
    refine uu_geti (ci := 3) (N := 15) fX6_125 (by decide) hk1.is (by decide) (by decide) dX6_gather_136 ?_
    refine uu_if_eq (tgt := 158) dX6_gather_139 (by decide) (fun c2 => ?_) (fun c2 => ?_)
    · replace h := uu_pos c2 h
      refine uu_lv [0, 1] (lv' := [(0, .ref (B + 1053)), (1, .ref (B + k1))]) rfl ?_
      exact xb_X6_gather_158 uk un hk1 h
    · replace h := uu_neg c2 h
      refine uu_aload_n dX6_gather_142 rfl (List.mem_of_getElem? (i := 0) rfl) ?_
      refine uu_iload dX6_gather_143 (List.mem_of_getElem? (i := 2) rfl) ?_
      refine uu_aload_n dX6_gather_145 rfl (List.mem_of_getElem? (i := 1) rfl) ?_
      refine uu_geti (ci := 3) (N := 15) fX6_125 (by decide) hk1.is (by decide) (by decide) dX6_gather_146 ?_
      obtain ⟨s3, e4, h⟩ := uu_ob h
      refine uu_cv (d1 := 1) (k := 1053) (ci := 6) (T := TX6) (N := 6) (As := [.int x4, .int (s.I k1 9)]) (st := []) (st' := []) (xc_X6_narrow uk  e4) so_1053.is (by decide) rfl kX6_narrow lX6_128 sX6_narrow (by decide) (Nat.le_of_ble_eq_true rfl) dX6_gather_149 rfl ?_
      refine uu_iinc (v := x4 + 1) dX6_gather_152 (k := 2) rfl rfl (by decide) rfl ?_
      refine uu_goto (tgt := 123) dX6_gather_155 (by decide) ?_
      refine uu_lv [1, 2, 0] (lv' := [(0, .ref (B + 1053)), (1, .ref (B + k1)), (4, .int (x4 + 1))]) rfl ?_
      exact hK123 k1 (x4 + 1) hk1 _ _ h
def fn_X6_gather_123  : Nat → Nat → Int32 → uS → Option uS
  | 0 => fun _ _ _ => none
  | n + 1 => fb_X6_gather_123 (fn_X6_gather_123  n)
set_option maxRecDepth 100000 in
set_option maxHeartbeats 4000000 in
theorem xn_X6_gather_123 {l : Launch} {D : va_G} {A : Nat → ClassId} {B : Nat} {Z : State → Heap → Prop} {vF : Value} (uk : uK B Z vF) (un : uX A B Z)   : ∀ (n : Nat) (k1 : Nat) (x4 : Int32) (hk1 : uSo k1 3) (s : uS) (r : uS), fn_X6_gather_123  n k1 x4 s = some r → GU l D A B Z mX6_gather 7 (r, none) s 123 [(0, .ref (B + 1053)), (1, .ref (B + k1)), (4, .int x4)] [] := by
  intro n
  induction n with
  | zero => intro k1 x4 hk1 s r h
            cases h
  | succ n ih => intro k1 x4 hk1 s r h
                 exact xb_X6_gather_123 uk un ih hk1 h
def fb_X6_gather_57 (K10 : Nat → Int32 → Int32 → Int32 → uS → Option uS) (k1 : Nat) (x2 : Int32) (x3 : Int32) (x4 : Int32) (s : uS) : Option uS := if (s.I k1 0) = 12 then ((fn_X6_isListed k1 x4 s).bind fun v2 => if v2 = true then ((fn_X6_findAddresses x4 s).bind fun s5 => K10 k1 x2 x3 (x4 + 1) s5) else (K10 k1 x2 x3 (x4 + 1) s)) else (K10 k1 x2 x3 (x4 + 1) s)
set_option maxRecDepth 100000 in
set_option maxHeartbeats 4000000 in
theorem xb_X6_gather_57 {l : Launch} {D : va_G} {A : Nat → ClassId} {B : Nat} {Z : State → Heap → Prop} {vF : Value} (uk : uK B Z vF) (un : uX A B Z) {K10 : Nat → Int32 → Int32 → Int32 → uS → Option uS} (hK10 : ∀ (k1 : Nat) (x2 : Int32) (x3 : Int32) (x4 : Int32) (hk1 : uSo k1 3) (s : uS) (r : uS), K10 k1 x2 x3 x4 s = some r → GU l D A B Z mX6_gather 7 (r, none) s 10 [(0, .ref (B + 1053)), (1, .ref (B + k1)), (2, .int x2), (3, .int x3), (4, .int x4)] []) {k1 : Nat} {x2 : Int32} {x3 : Int32} {x4 : Int32} {s : uS} {r : uS} (hk1 : uSo k1 3) (h : fb_X6_gather_57 K10 k1 x2 x3 x4 s = some r) : GU l D A B Z mX6_gather 7 (r, none) s 57 [(0, .ref (B + 1053)), (1, .ref (B + k1)), (2, .int x2), (3, .int x3), (4, .int x4)] [] := by
  unfold fb_X6_gather_57 at h
  refine uu_aload_n dX6_gather_57 rfl (List.mem_of_getElem? (i := 1) rfl) ?_
  refine uu_geti (ci := 3) (N := 15) fX6_102 (by decide) hk1.is (by decide) (by decide) dX6_gather_58 ?_
  refine uu_bipush (v := 12) dX6_gather_61 (by decide) ?_
  refine uu_icmp_ne (tgt := 82) dX6_gather_63 (by decide) (fun c1 => ?_) (fun c1 => ?_)
  · replace h := uu_neg c1 h
    refine uu_iinc (v := x4 + 1) dX6_gather_82 (k := 4) rfl rfl (by decide) rfl ?_
    refine uu_goto (tgt := 10) dX6_gather_85 (by decide) ?_
    refine uu_lv [1, 2, 3, 4, 0] (lv' := [(0, .ref (B + 1053)), (1, .ref (B + k1)), (2, .int x2), (3, .int x3), (4, .int (x4 + 1))]) rfl ?_
    exact hK10 k1 x2 x3 (x4 + 1) hk1 _ _ h
  · replace h := uu_pos c1 h
    refine uu_aload_n dX6_gather_66 rfl (List.mem_of_getElem? (i := 0) rfl) ?_
    refine uu_aload_n dX6_gather_67 rfl (List.mem_of_getElem? (i := 1) rfl) ?_
    refine uu_iload dX6_gather_68 (List.mem_of_getElem? (i := 4) rfl) ?_
    obtain ⟨v2, e3, h⟩ := uu_ob h
    refine uu_cv (d1 := 2) (k := 1053) (ci := 6) (T := TX6) (N := 6) (As := [.ref (B + k1), .int x4]) (st := []) (st' := [.int (bI v2)]) (xc_X6_isListed uk hk1 e3) so_1053.is (by decide) rfl kX6_isListed lX6_107 sX6_isListed (by decide) (Nat.le_of_ble_eq_true rfl) dX6_gather_70 rfl ?_
    refine uu_ifb_eq (tgt := 82) dX6_gather_73 (by decide) (fun c4 => ?_) (fun c4 => ?_)
    · replace h := uu_neg c4 h
      refine uu_iinc (v := x4 + 1) dX6_gather_82 (k := 4) rfl rfl (by decide) rfl ?_
      refine uu_goto (tgt := 10) dX6_gather_85 (by decide) ?_
      refine uu_lv [1, 2, 3, 4, 0] (lv' := [(0, .ref (B + 1053)), (1, .ref (B + k1)), (2, .int x2), (3, .int x3), (4, .int (x4 + 1))]) rfl ?_
      exact hK10 k1 x2 x3 (x4 + 1) hk1 _ _ h
    · replace h := uu_pos c4 h
      refine uu_aload_n dX6_gather_76 rfl (List.mem_of_getElem? (i := 0) rfl) ?_
      refine uu_iload dX6_gather_77 (List.mem_of_getElem? (i := 4) rfl) ?_
      obtain ⟨s5, e6, h⟩ := uu_ob h
      refine uu_cv (d1 := 6) (k := 1053) (ci := 6) (T := TX6) (N := 6) (As := [.int x4]) (st := []) (st' := []) (xc_X6_findAddresses uk un  e6) so_1053.is (by decide) rfl kX6_findAddresses lX6_115 sX6_findAddresses (by decide) (Nat.le_of_ble_eq_true rfl) dX6_gather_79 rfl ?_
      refine uu_iinc (v := x4 + 1) dX6_gather_82 (k := 4) rfl rfl (by decide) rfl ?_
      refine uu_goto (tgt := 10) dX6_gather_85 (by decide) ?_
      refine uu_lv [1, 2, 3, 4, 0] (lv' := [(0, .ref (B + 1053)), (1, .ref (B + k1)), (2, .int x2), (3, .int x3), (4, .int (x4 + 1))]) rfl ?_
      exact hK10 k1 x2 x3 (x4 + 1) hk1 _ _ h
def fb_X6_gather_10 (K10 : Nat → Int32 → Int32 → Int32 → uS → Option uS) (k1 : Nat) (x2 : Int32) (x3 : Int32) (x4 : Int32) (s : uS) : Option uS := if (s.I 1054 3) ≤ x4 then (if (s.I k1 0) = 13 then ((fn_X6_gatherEnvelope k1 x2 s).bind fun s6 => fn_X6_gather_123 uFu k1 0 s6) else (if (s.I k1 0) = 14 then ((fn_X6_gatherFlags x3 s).bind fun s4 => fn_X6_gather_123 uFu k1 0 s4) else (fn_X6_gather_123 uFu k1 0 s))) else (if (s.I k1 0) = 11 then ((fn_X6_isListed k1 x4 s).bind fun v9 => if v9 = true then ((fn_X9_addFrom 1062 1058 x4 s).bind fun s12 => K10 k1 x2 x3 (x4 + 1) s12) else (fb_X6_gather_57 K10 k1 x2 x3 x4 s)) else (fb_X6_gather_57 K10 k1 x2 x3 x4 s))
set_option maxRecDepth 100000 in
set_option maxHeartbeats 4000000 in
theorem xb_X6_gather_10 {l : Launch} {D : va_G} {A : Nat → ClassId} {B : Nat} {Z : State → Heap → Prop} {vF : Value} (uk : uK B Z vF) (un : uX A B Z) {K10 : Nat → Int32 → Int32 → Int32 → uS → Option uS} (hK10 : ∀ (k1 : Nat) (x2 : Int32) (x3 : Int32) (x4 : Int32) (hk1 : uSo k1 3) (s : uS) (r : uS), K10 k1 x2 x3 x4 s = some r → GU l D A B Z mX6_gather 7 (r, none) s 10 [(0, .ref (B + 1053)), (1, .ref (B + k1)), (2, .int x2), (3, .int x3), (4, .int x4)] []) {k1 : Nat} {x2 : Int32} {x3 : Int32} {x4 : Int32} {s : uS} {r : uS} (hk1 : uSo k1 3) (h : fb_X6_gather_10 K10 k1 x2 x3 x4 s = some r) : GU l D A B Z mX6_gather 7 (r, none) s 10 [(0, .ref (B + 1053)), (1, .ref (B + k1)), (2, .int x2), (3, .int x3), (4, .int x4)] [] := by
  unfold fb_X6_gather_10 at h
  refine uu_iload dX6_gather_10 (List.mem_of_getElem? (i := 4) rfl) ?_
  refine uu_aload_n dX6_gather_12 rfl (List.mem_of_getElem? (i := 0) rfl) ?_
  refine uu_geta (ci := 6) (N := 6) fX6_14 (by decide) so_1053.is (by decide) (c := 1054) (by decide) dX6_gather_13 ?_
  refine uu_geti (ci := 9) (N := 6) fX6_62 (by decide) so_1054.is (by decide) (by decide) dX6_gather_16 ?_
  refine uu_icmp_ge (tgt := 88) dX6_gather_19 (by decide) (fun c1 => ?_) (fun c1 => ?_)
  · replace h := uu_pos c1 h
    refine uu_aload_n dX6_gather_88 rfl (List.mem_of_getElem? (i := 1) rfl) ?_
    refine uu_geti (ci := 3) (N := 15) fX6_102 (by decide) hk1.is (by decide) (by decide) dX6_gather_89 ?_
    refine uu_bipush (v := 13) dX6_gather_92 (by decide) ?_
    refine uu_icmp_ne (tgt := 106) dX6_gather_94 (by decide) (fun c2 => ?_) (fun c2 => ?_)
    · replace h := uu_neg c2 h
      refine uu_aload_n dX6_gather_106 rfl (List.mem_of_getElem? (i := 1) rfl) ?_
      refine uu_geti (ci := 3) (N := 15) fX6_102 (by decide) hk1.is (by decide) (by decide) dX6_gather_107 ?_
      refine uu_bipush (v := 14) dX6_gather_110 (by decide) ?_
      refine uu_icmp_ne (tgt := 120) dX6_gather_112 (by decide) (fun c3 => ?_) (fun c3 => ?_)
      · replace h := uu_neg c3 h
        refine uu_iconst (v := 0) dX6_gather_120 (by decide) ?_
        refine uu_istore dX6_gather_121 (by decide) rfl ?_
        refine uu_lv [1, 2, 0] (lv' := [(0, .ref (B + 1053)), (1, .ref (B + k1)), (4, .int 0)]) rfl ?_
        exact xn_X6_gather_123 uk un  _ _ _ hk1 _ _ h
      · replace h := uu_pos c3 h
        refine uu_aload_n dX6_gather_115 rfl (List.mem_of_getElem? (i := 0) rfl) ?_
        refine uu_iload_n dX6_gather_116 rfl (List.mem_of_getElem? (i := 3) rfl) ?_
        obtain ⟨s4, e5, h⟩ := uu_ob h
        refine uu_cv (d1 := 4) (k := 1053) (ci := 6) (T := TX6) (N := 6) (As := [.int x3]) (st := []) (st' := []) (xc_X6_gatherFlags uk  e5) so_1053.is (by decide) rfl kX6_gatherFlags lX6_122 sX6_gatherFlags (by decide) (Nat.le_of_ble_eq_true rfl) dX6_gather_117 rfl ?_
        refine uu_iconst (v := 0) dX6_gather_120 (by decide) ?_
        refine uu_istore dX6_gather_121 (by decide) rfl ?_
        refine uu_lv [1, 2, 0] (lv' := [(0, .ref (B + 1053)), (1, .ref (B + k1)), (4, .int 0)]) rfl ?_
        exact xn_X6_gather_123 uk un  _ _ _ hk1 _ _ h
    · replace h := uu_pos c2 h
      refine uu_aload_n dX6_gather_97 rfl (List.mem_of_getElem? (i := 0) rfl) ?_
      refine uu_aload_n dX6_gather_98 rfl (List.mem_of_getElem? (i := 1) rfl) ?_
      refine uu_iload_n dX6_gather_99 rfl (List.mem_of_getElem? (i := 2) rfl) ?_
      obtain ⟨s6, e7, h⟩ := uu_ob h
      refine uu_cv (d1 := 5) (k := 1053) (ci := 6) (T := TX6) (N := 6) (As := [.ref (B + k1), .int x2]) (st := []) (st' := []) (xc_X6_gatherEnvelope uk un hk1 e7) so_1053.is (by decide) rfl kX6_gatherEnvelope lX6_118 sX6_gatherEnvelope (by decide) (Nat.le_of_ble_eq_true rfl) dX6_gather_100 rfl ?_
      refine uu_goto (tgt := 120) dX6_gather_103 (by decide) ?_
      refine uu_iconst (v := 0) dX6_gather_120 (by decide) ?_
      refine uu_istore dX6_gather_121 (by decide) rfl ?_
      refine uu_lv [1, 2, 0] (lv' := [(0, .ref (B + 1053)), (1, .ref (B + k1)), (4, .int 0)]) rfl ?_
      exact xn_X6_gather_123 uk un  _ _ _ hk1 _ _ h
  · replace h := uu_neg c1 h
    refine uu_aload_n dX6_gather_22 rfl (List.mem_of_getElem? (i := 1) rfl) ?_
    refine uu_geti (ci := 3) (N := 15) fX6_102 (by decide) hk1.is (by decide) (by decide) dX6_gather_23 ?_
    refine uu_bipush (v := 11) dX6_gather_26 (by decide) ?_
    refine uu_icmp_ne (tgt := 57) dX6_gather_28 (by decide) (fun c8 => ?_) (fun c8 => ?_)
    · replace h := uu_neg c8 h
      exact xb_X6_gather_57 uk un hK10 hk1 h
    · replace h := uu_pos c8 h
      refine uu_aload_n dX6_gather_31 rfl (List.mem_of_getElem? (i := 0) rfl) ?_
      refine uu_aload_n dX6_gather_32 rfl (List.mem_of_getElem? (i := 1) rfl) ?_
      refine uu_iload dX6_gather_33 (List.mem_of_getElem? (i := 4) rfl) ?_
      obtain ⟨v9, e10, h⟩ := uu_ob h
      refine uu_cv (d1 := 2) (k := 1053) (ci := 6) (T := TX6) (N := 6) (As := [.ref (B + k1), .int x4]) (st := []) (st' := [.int (bI v9)]) (xc_X6_isListed uk hk1 e10) so_1053.is (by decide) rfl kX6_isListed lX6_107 sX6_isListed (by decide) (Nat.le_of_ble_eq_true rfl) dX6_gather_35 rfl ?_
      refine uu_ifb_eq (tgt := 57) dX6_gather_38 (by decide) (fun c11 => ?_) (fun c11 => ?_)
      · replace h := uu_neg c11 h
        exact xb_X6_gather_57 uk un hK10 hk1 h
      · replace h := uu_pos c11 h
        refine uu_aload_n dX6_gather_41 rfl (List.mem_of_getElem? (i := 0) rfl) ?_
        refine uu_geta (ci := 6) (N := 6) fX6_21 (by decide) so_1053.is (by decide) (c := 1062) (by decide) dX6_gather_42 ?_
        refine uu_aload_n dX6_gather_45 rfl (List.mem_of_getElem? (i := 0) rfl) ?_
        refine uu_geta (ci := 6) (N := 6) fX6_18 (by decide) so_1053.is (by decide) (c := 1058) (by decide) dX6_gather_46 ?_
        refine uu_iload dX6_gather_49 (List.mem_of_getElem? (i := 4) rfl) ?_
        obtain ⟨s12, e13, h⟩ := uu_ob h
        refine uu_cv (d1 := 2) (k := 1062) (ci := 9) (T := TX9) (N := 6) (As := [.ref (B + 1058), .int x4]) (st := []) (st' := []) (xc_X9_addFrom uk un so_1062 so_1058 e13) so_1062.is (by decide) rfl kX9_addFrom lX6_111 sX9_addFrom (by decide) (Nat.le_of_ble_eq_true rfl) dX6_gather_51 rfl ?_
        refine uu_goto (tgt := 82) dX6_gather_54 (by decide) ?_
        refine uu_iinc (v := x4 + 1) dX6_gather_82 (k := 4) rfl rfl (by decide) rfl ?_
        refine uu_goto (tgt := 10) dX6_gather_85 (by decide) ?_
        refine uu_lv [1, 2, 3, 4, 0] (lv' := [(0, .ref (B + 1053)), (1, .ref (B + k1)), (2, .int x2), (3, .int x3), (4, .int (x4 + 1))]) rfl ?_
        exact hK10 k1 x2 x3 (x4 + 1) hk1 _ _ h
def fn_X6_gather_10  : Nat → Nat → Int32 → Int32 → Int32 → uS → Option uS
  | 0 => fun _ _ _ _ _ => none
  | n + 1 => fb_X6_gather_10 (fn_X6_gather_10  n)
set_option maxRecDepth 100000 in
set_option maxHeartbeats 4000000 in
theorem xn_X6_gather_10 {l : Launch} {D : va_G} {A : Nat → ClassId} {B : Nat} {Z : State → Heap → Prop} {vF : Value} (uk : uK B Z vF) (un : uX A B Z)   : ∀ (n : Nat) (k1 : Nat) (x2 : Int32) (x3 : Int32) (x4 : Int32) (hk1 : uSo k1 3) (s : uS) (r : uS), fn_X6_gather_10  n k1 x2 x3 x4 s = some r → GU l D A B Z mX6_gather 7 (r, none) s 10 [(0, .ref (B + 1053)), (1, .ref (B + k1)), (2, .int x2), (3, .int x3), (4, .int x4)] [] := by
  intro n
  induction n with
  | zero => intro k1 x2 x3 x4 hk1 s r h
            cases h
  | succ n ih => intro k1 x2 x3 x4 hk1 s r h
                 exact xb_X6_gather_10 uk un ih hk1 h
def fn_X6_gather (k1 : Nat) (x2 : Int32) (x3 : Int32) (s : uS) : Option uS := (fn_X9_clear 1062 s).bind fun s1 => fn_X6_gather_10 uFu k1 x2 x3 0 s1
set_option maxRecDepth 100000 in
set_option maxHeartbeats 4000000 in
theorem xc_X6_gather {l : Launch} {D : va_G} {A : Nat → ClassId} {B : Nat} {Z : State → Heap → Prop} {vF : Value} (uk : uK B Z vF) (un : uX A B Z) {k1 : Nat} {x2 : Int32} {x3 : Int32} {s : uS} {r : uS} (hk1 : uSo k1 3) (h : fn_X6_gather k1 x2 x3 s = some r) : CU l D A B Z 7 mX6_gather s [.ref (B + 1053), .ref (B + k1), .int x2, .int x3] (r, none) := by
  unfold fn_X6_gather at h
  refine cu_of rfl uk.1.1 (Nat.le_of_ble_eq_true rfl) ?_
  show GU _ _ _ _ _ _ _ _ _ 0 [(0, .ref (B + 1053)), (1, .ref (B + k1)), (2, .int x2), (3, .int x3)] []
  refine uu_aload_n dX6_gather_0 rfl (List.mem_of_getElem? (i := 0) rfl) ?_
  refine uu_geta (ci := 6) (N := 6) fX6_21 (by decide) so_1053.is (by decide) (c := 1062) (by decide) dX6_gather_1 ?_
  obtain ⟨s1, e2, h⟩ := uu_ob h
  refine uu_cv (d1 := 0) (k := 1062) (ci := 9) (T := TX9) (N := 6) (As := []) (st := []) (st' := []) (xc_X9_clear uk so_1062 e2) so_1062.is (by decide) rfl kX9_clear lX6_34 sX9_clear (by decide) (Nat.le_of_ble_eq_true rfl) dX6_gather_4 rfl ?_
  refine uu_iconst (v := 0) dX6_gather_7 (by decide) ?_
  refine uu_istore dX6_gather_8 (by decide) rfl ?_
  refine uu_lv [1, 2, 3, 4, 0] (lv' := [(0, .ref (B + 1053)), (1, .ref (B + k1)), (2, .int x2), (3, .int x3), (4, .int 0)]) rfl ?_
  exact xn_X6_gather_10 uk un  _ _ _ _ _ hk1 _ _ h
abbrev mX6_isAddressed : hM := (yX6_isAddressed, cX6_isAddressed, 6, (some (.boolean)))
theorem dX6_isAddressed_127 : decode cX6_isAddressed 127 = .ok (.iload 4, 2) := by decide +kernel
theorem dX6_isAddressed_129 : decode cX6_isAddressed 129 = .ok (.ifCond .eq 5, 3) := by decide +kernel
theorem dX6_isAddressed_134 : decode cX6_isAddressed 134 = .ok (.iinc 3 1, 3) := by decide +kernel
theorem dX6_isAddressed_137 : decode cX6_isAddressed 137 = .ok (.goto (-91), 3) := by decide +kernel
theorem dX6_isAddressed_132 : decode cX6_isAddressed 132 = .ok (.iconst 1, 1) := by decide +kernel
theorem dX6_isAddressed_133 : decode cX6_isAddressed 133 = .ok (.ireturn, 1) := by decide +kernel
theorem dX6_isAddressed_79 : decode cX6_isAddressed 79 = .ok (.iload 5, 2) := by decide +kernel
theorem dX6_isAddressed_81 : decode cX6_isAddressed 81 = .ok (.aload_n 1, 1) := by decide +kernel
theorem dX6_isAddressed_82 : decode cX6_isAddressed 82 = .ok (.getfield 140, 3) := by decide +kernel
theorem dX6_isAddressed_85 : decode cX6_isAddressed 85 = .ok (.bipush 8, 2) := by decide +kernel
theorem dX6_isAddressed_87 : decode cX6_isAddressed 87 = .ok (.iaload, 1) := by decide +kernel
theorem dX6_isAddressed_88 : decode cX6_isAddressed 88 = .ok (.if_icmp .ge 39, 3) := by decide +kernel
theorem dX6_isAddressed_91 : decode cX6_isAddressed 91 = .ok (.iload 4, 2) := by decide +kernel
theorem dX6_isAddressed_93 : decode cX6_isAddressed 93 = .ok (.ifCond .ne 34, 3) := by decide +kernel
theorem dX6_isAddressed_96 : decode cX6_isAddressed 96 = .ok (.aload_n 0, 1) := by decide +kernel
theorem dX6_isAddressed_97 : decode cX6_isAddressed 97 = .ok (.getfield 21, 3) := by decide +kernel
theorem dX6_isAddressed_100 : decode cX6_isAddressed 100 = .ok (.iload_n 3, 1) := by decide +kernel
theorem dX6_isAddressed_101 : decode cX6_isAddressed 101 = .ok (.aload_n 0, 1) := by decide +kernel
theorem dX6_isAddressed_102 : decode cX6_isAddressed 102 = .ok (.getfield 31, 3) := by decide +kernel
theorem dX6_isAddressed_105 : decode cX6_isAddressed 105 = .ok (.aload_n 1, 1) := by decide +kernel
theorem dX6_isAddressed_106 : decode cX6_isAddressed 106 = .ok (.getfield 137, 3) := by decide +kernel
theorem dX6_isAddressed_109 : decode cX6_isAddressed 109 = .ok (.bipush 8, 2) := by decide +kernel
theorem dX6_isAddressed_111 : decode cX6_isAddressed 111 = .ok (.iaload, 1) := by decide +kernel
theorem dX6_isAddressed_112 : decode cX6_isAddressed 112 = .ok (.iload 5, 2) := by decide +kernel
theorem dX6_isAddressed_114 : decode cX6_isAddressed 114 = .ok (.iadd, 1) := by decide +kernel
theorem dX6_isAddressed_115 : decode cX6_isAddressed 115 = .ok (.iconst 1, 1) := by decide +kernel
theorem dX6_isAddressed_116 : decode cX6_isAddressed 116 = .ok (.invokevirtual 143, 3) := by decide +kernel
theorem dX6_isAddressed_119 : decode cX6_isAddressed 119 = .ok (.istore 4, 2) := by decide +kernel
theorem dX6_isAddressed_121 : decode cX6_isAddressed 121 = .ok (.iinc 5 1, 3) := by decide +kernel
theorem dX6_isAddressed_124 : decode cX6_isAddressed 124 = .ok (.goto (-45), 3) := by decide +kernel
theorem dX6_isAddressed_46 : decode cX6_isAddressed 46 = .ok (.iload_n 3, 1) := by decide +kernel
theorem dX6_isAddressed_47 : decode cX6_isAddressed 47 = .ok (.aload_n 0, 1) := by decide +kernel
theorem dX6_isAddressed_48 : decode cX6_isAddressed 48 = .ok (.getfield 21, 3) := by decide +kernel
theorem dX6_isAddressed_51 : decode cX6_isAddressed 51 = .ok (.getfield 62, 3) := by decide +kernel
theorem dX6_isAddressed_54 : decode cX6_isAddressed 54 = .ok (.if_icmp .ge 86, 3) := by decide +kernel
theorem dX6_isAddressed_140 : decode cX6_isAddressed 140 = .ok (.iconst 0, 1) := by decide +kernel
theorem dX6_isAddressed_141 : decode cX6_isAddressed 141 = .ok (.ireturn, 1) := by decide +kernel
theorem dX6_isAddressed_57 : decode cX6_isAddressed 57 = .ok (.aload_n 0, 1) := by decide +kernel
theorem dX6_isAddressed_58 : decode cX6_isAddressed 58 = .ok (.getfield 21, 3) := by decide +kernel
theorem dX6_isAddressed_61 : decode cX6_isAddressed 61 = .ok (.iload_n 3, 1) := by decide +kernel
theorem dX6_isAddressed_62 : decode cX6_isAddressed 62 = .ok (.aload_n 0, 1) := by decide +kernel
theorem dX6_isAddressed_63 : decode cX6_isAddressed 63 = .ok (.getfield 27, 3) := by decide +kernel
theorem dX6_isAddressed_66 : decode cX6_isAddressed 66 = .ok (.getfield 156, 3) := by decide +kernel
theorem dX6_isAddressed_69 : decode cX6_isAddressed 69 = .ok (.iload_n 2, 1) := by decide +kernel
theorem dX6_isAddressed_70 : decode cX6_isAddressed 70 = .ok (.iconst 1, 1) := by decide +kernel
theorem dX6_isAddressed_71 : decode cX6_isAddressed 71 = .ok (.invokevirtual 143, 3) := by decide +kernel
theorem dX6_isAddressed_74 : decode cX6_isAddressed 74 = .ok (.istore 4, 2) := by decide +kernel
theorem dX6_isAddressed_76 : decode cX6_isAddressed 76 = .ok (.iconst 0, 1) := by decide +kernel
theorem dX6_isAddressed_77 : decode cX6_isAddressed 77 = .ok (.istore 5, 2) := by decide +kernel
theorem dX6_isAddressed_9 : decode cX6_isAddressed 9 = .ok (.iload_n 3, 1) := by decide +kernel
theorem dX6_isAddressed_10 : decode cX6_isAddressed 10 = .ok (.aload_n 0, 1) := by decide +kernel
theorem dX6_isAddressed_11 : decode cX6_isAddressed 11 = .ok (.getfield 14, 3) := by decide +kernel
theorem dX6_isAddressed_14 : decode cX6_isAddressed 14 = .ok (.getfield 62, 3) := by decide +kernel
theorem dX6_isAddressed_17 : decode cX6_isAddressed 17 = .ok (.if_icmp .ge 27, 3) := by decide +kernel
theorem dX6_isAddressed_44 : decode cX6_isAddressed 44 = .ok (.iconst 0, 1) := by decide +kernel
theorem dX6_isAddressed_45 : decode cX6_isAddressed 45 = .ok (.istore_n 3, 1) := by decide +kernel
theorem dX6_isAddressed_20 : decode cX6_isAddressed 20 = .ok (.aload_n 0, 1) := by decide +kernel
theorem dX6_isAddressed_21 : decode cX6_isAddressed 21 = .ok (.getfield 14, 3) := by decide +kernel
theorem dX6_isAddressed_24 : decode cX6_isAddressed 24 = .ok (.ldc 230, 2) := by decide +kernel
theorem dX6_isAddressed_26 : decode cX6_isAddressed 26 = .ok (.iload_n 3, 1) := by decide +kernel
theorem dX6_isAddressed_27 : decode cX6_isAddressed 27 = .ok (.invokevirtual 218, 3) := by decide +kernel
theorem dX6_isAddressed_30 : decode cX6_isAddressed 30 = .ok (.ifCond .lt 8, 3) := by decide +kernel
theorem dX6_isAddressed_38 : decode cX6_isAddressed 38 = .ok (.iinc 3 1, 3) := by decide +kernel
theorem dX6_isAddressed_41 : decode cX6_isAddressed 41 = .ok (.goto (-32), 3) := by decide +kernel
theorem dX6_isAddressed_33 : decode cX6_isAddressed 33 = .ok (.aload_n 0, 1) := by decide +kernel
theorem dX6_isAddressed_34 : decode cX6_isAddressed 34 = .ok (.iload_n 3, 1) := by decide +kernel
theorem dX6_isAddressed_35 : decode cX6_isAddressed 35 = .ok (.invokevirtual 115, 3) := by decide +kernel
theorem dX6_isAddressed_0 : decode cX6_isAddressed 0 = .ok (.aload_n 0, 1) := by decide +kernel
theorem dX6_isAddressed_1 : decode cX6_isAddressed 1 = .ok (.getfield 21, 3) := by decide +kernel
theorem dX6_isAddressed_4 : decode cX6_isAddressed 4 = .ok (.invokevirtual 34, 3) := by decide +kernel
theorem dX6_isAddressed_7 : decode cX6_isAddressed 7 = .ok (.iconst 0, 1) := by decide +kernel
theorem dX6_isAddressed_8 : decode cX6_isAddressed 8 = .ok (.istore_n 3, 1) := by decide +kernel
def fb_X6_isAddressed_127 (K46 : Nat → Int32 → Int32 → uS → Option (uS × Bool)) (k1 : Nat) (x2 : Int32) (x3 : Int32) (b4 : Bool) (s : uS) : Option (uS × Bool) := if b4 = true then (some (s, true)) else (K46 k1 x2 (x3 + 1) s)
set_option maxRecDepth 100000 in
set_option maxHeartbeats 4000000 in
theorem xb_X6_isAddressed_127 {l : Launch} {D : va_G} {A : Nat → ClassId} {B : Nat} {Z : State → Heap → Prop} {vF : Value} (uk : uK B Z vF) (un : uX A B Z) {K46 : Nat → Int32 → Int32 → uS → Option (uS × Bool)} (hK46 : ∀ (k1 : Nat) (x2 : Int32) (x3 : Int32) (hk1 : uSo k1 3) (s : uS) (r : (uS × Bool)), K46 k1 x2 x3 s = some r → GU l D A B Z mX6_isAddressed 7 (r.1, some (.int (bI r.2))) s 46 [(0, .ref (B + 1053)), (1, .ref (B + k1)), (2, .int x2), (3, .int x3)] []) {k1 : Nat} {x2 : Int32} {x3 : Int32} {b4 : Bool} {s : uS} {r : (uS × Bool)} (hk1 : uSo k1 3) (h : fb_X6_isAddressed_127 K46 k1 x2 x3 b4 s = some r) : GU l D A B Z mX6_isAddressed 7 (r.1, some (.int (bI r.2))) s 127 [(0, .ref (B + 1053)), (1, .ref (B + k1)), (2, .int x2), (3, .int x3), (4, .int (bI b4))] [] := by
  unfold fb_X6_isAddressed_127 at h
  refine uu_iload dX6_isAddressed_127 (List.mem_of_getElem? (i := 4) rfl) ?_
  refine uu_ifb_eq (tgt := 134) dX6_isAddressed_129 (by decide) (fun c1 => ?_) (fun c1 => ?_)
  · replace h := uu_neg c1 h
    refine uu_iinc (v := x3 + 1) dX6_isAddressed_134 (k := 3) rfl rfl (by decide) rfl ?_
    refine uu_goto (tgt := 46) dX6_isAddressed_137 (by decide) ?_
    refine uu_lv [1, 2, 3, 0] (lv' := [(0, .ref (B + 1053)), (1, .ref (B + k1)), (2, .int x2), (3, .int (x3 + 1))]) rfl ?_
    exact hK46 k1 x2 (x3 + 1) hk1 _ _ h
  · replace h := uu_pos c1 h
    refine uu_iconst (v := 1) dX6_isAddressed_132 (by decide) ?_
    have hr := Option.some.inj h
    subst hr
    exact uu_zret (x := bI true) rfl (bI_z _) dX6_isAddressed_133
def fb_X6_isAddressed_79 (K46 : Nat → Int32 → Int32 → uS → Option (uS × Bool)) (K79 : Nat → Int32 → Int32 → Bool → Int32 → uS → Option (uS × Bool)) (k1 : Nat) (x2 : Int32) (x3 : Int32) (b4 : Bool) (x5 : Int32) (s : uS) : Option (uS × Bool) := (iget 20 s (k1 + 2) 8).bind fun v1 => if v1 ≤ x5 then (fb_X6_isAddressed_127 K46 k1 x2 x3 b4 s) else (if b4 = true then (fb_X6_isAddressed_127 K46 k1 x2 x3 b4 s) else ((iget 20 s (k1 + 1) 8).bind fun v5 => (fn_X9_isSameText 1062 x3 8 (v5 + x5) true s).bind fun v7 => K79 k1 x2 x3 v7 (x5 + 1) s))
set_option maxRecDepth 100000 in
set_option maxHeartbeats 4000000 in
theorem xb_X6_isAddressed_79 {l : Launch} {D : va_G} {A : Nat → ClassId} {B : Nat} {Z : State → Heap → Prop} {vF : Value} (uk : uK B Z vF) (un : uX A B Z) {K46 : Nat → Int32 → Int32 → uS → Option (uS × Bool)} {K79 : Nat → Int32 → Int32 → Bool → Int32 → uS → Option (uS × Bool)} (hK46 : ∀ (k1 : Nat) (x2 : Int32) (x3 : Int32) (hk1 : uSo k1 3) (s : uS) (r : (uS × Bool)), K46 k1 x2 x3 s = some r → GU l D A B Z mX6_isAddressed 7 (r.1, some (.int (bI r.2))) s 46 [(0, .ref (B + 1053)), (1, .ref (B + k1)), (2, .int x2), (3, .int x3)] []) (hK79 : ∀ (k1 : Nat) (x2 : Int32) (x3 : Int32) (b4 : Bool) (x5 : Int32) (hk1 : uSo k1 3) (s : uS) (r : (uS × Bool)), K79 k1 x2 x3 b4 x5 s = some r → GU l D A B Z mX6_isAddressed 7 (r.1, some (.int (bI r.2))) s 79 [(0, .ref (B + 1053)), (1, .ref (B + k1)), (2, .int x2), (3, .int x3), (4, .int (bI b4)), (5, .int x5)] []) {k1 : Nat} {x2 : Int32} {x3 : Int32} {b4 : Bool} {x5 : Int32} {s : uS} {r : (uS × Bool)} (hk1 : uSo k1 3) (h : fb_X6_isAddressed_79 K46 K79 k1 x2 x3 b4 x5 s = some r) : GU l D A B Z mX6_isAddressed 7 (r.1, some (.int (bI r.2))) s 79 [(0, .ref (B + 1053)), (1, .ref (B + k1)), (2, .int x2), (3, .int x3), (4, .int (bI b4)), (5, .int x5)] [] := by
  unfold fb_X6_isAddressed_79 at h
  refine uu_iload dX6_isAddressed_79 (List.mem_of_getElem? (i := 5) rfl) ?_
  refine uu_aload_n dX6_isAddressed_81 rfl (List.mem_of_getElem? (i := 1) rfl) ?_
  refine uu_getc (ci := 3) (N := 15) fX6_140 (by decide) hk1.is (by decide) (c := 2) (by decide) (k2 := k1 + 2) rfl dX6_isAddressed_82 ?_
  refine uu_bipush (v := 8) dX6_isAddressed_85 (by decide) ?_
  obtain ⟨v1, e2, h⟩ := uu_ob h
  refine uu_iald e2 dX6_isAddressed_87 ?_
  refine uu_icmp_ge (tgt := 127) dX6_isAddressed_88 (by decide) (fun c3 => ?_) (fun c3 => ?_)
  · replace h := uu_pos c3 h
    refine uu_lv [0, 1, 2, 3, 4] (lv' := [(0, .ref (B + 1053)), (1, .ref (B + k1)), (2, .int x2), (3, .int x3), (4, .int (bI b4))]) rfl ?_
    exact xb_X6_isAddressed_127 uk un hK46 hk1 h
  · replace h := uu_neg c3 h
    refine uu_iload dX6_isAddressed_91 (List.mem_of_getElem? (i := 4) rfl) ?_
    refine uu_ifb_ne (tgt := 127) dX6_isAddressed_93 (by decide) (fun c4 => ?_) (fun c4 => ?_)
    · replace h := uu_pos c4 h
      refine uu_lv [0, 1, 2, 3, 4] (lv' := [(0, .ref (B + 1053)), (1, .ref (B + k1)), (2, .int x2), (3, .int x3), (4, .int (bI b4))]) rfl ?_
      exact xb_X6_isAddressed_127 uk un hK46 hk1 h
    · replace h := uu_neg c4 h
      refine uu_aload_n dX6_isAddressed_96 rfl (List.mem_of_getElem? (i := 0) rfl) ?_
      refine uu_geta (ci := 6) (N := 6) fX6_21 (by decide) so_1053.is (by decide) (c := 1062) (by decide) dX6_isAddressed_97 ?_
      refine uu_iload_n dX6_isAddressed_100 rfl (List.mem_of_getElem? (i := 3) rfl) ?_
      refine uu_aload_n dX6_isAddressed_101 rfl (List.mem_of_getElem? (i := 0) rfl) ?_
      refine uu_geta (ci := 6) (N := 6) fX6_31 (by decide) so_1053.is (by decide) (c := 8) (by decide) dX6_isAddressed_102 ?_
      refine uu_aload_n dX6_isAddressed_105 rfl (List.mem_of_getElem? (i := 1) rfl) ?_
      refine uu_getc (ci := 3) (N := 15) fX6_137 (by decide) hk1.is (by decide) (c := 1) (by decide) (k2 := k1 + 1) rfl dX6_isAddressed_106 ?_
      refine uu_bipush (v := 8) dX6_isAddressed_109 (by decide) ?_
      obtain ⟨v5, e6, h⟩ := uu_ob h
      refine uu_iald e6 dX6_isAddressed_111 ?_
      refine uu_iload dX6_isAddressed_112 (List.mem_of_getElem? (i := 5) rfl) ?_
      refine uu_iadd dX6_isAddressed_114 ?_
      refine uu_iconst (v := 1) dX6_isAddressed_115 (by decide) ?_
      obtain ⟨v7, e8, h⟩ := uu_ob h
      refine uu_cv (d1 := 1) (k := 1062) (ci := 9) (T := TX9) (N := 6) (As := [.int x3, .ref (B + 8), .int (v5 + x5), .int 1]) (st := []) (st' := [.int (bI v7)]) (xc_X9_isSameText uk so_1062 so_8 e8) so_1062.is (by decide) rfl kX9_isSameText lX6_143 sX9_isSameText (by decide) (Nat.le_of_ble_eq_true rfl) dX6_isAddressed_116 rfl ?_
      refine uu_istore dX6_isAddressed_119 (by decide) rfl ?_
      refine uu_iinc (v := x5 + 1) dX6_isAddressed_121 (k := 5) rfl rfl (by decide) rfl ?_
      refine uu_goto (tgt := 79) dX6_isAddressed_124 (by decide) ?_
      refine uu_lv [2, 3, 4, 5, 1, 0] (lv' := [(0, .ref (B + 1053)), (1, .ref (B + k1)), (2, .int x2), (3, .int x3), (4, .int (bI v7)), (5, .int (x5 + 1))]) rfl ?_
      exact hK79 k1 x2 x3 v7 (x5 + 1) hk1 _ _ h
def fn_X6_isAddressed_79 (K46 : Nat → Int32 → Int32 → uS → Option (uS × Bool)) : Nat → Nat → Int32 → Int32 → Bool → Int32 → uS → Option (uS × Bool)
  | 0 => fun _ _ _ _ _ _ => none
  | n + 1 => fb_X6_isAddressed_79 K46 (fn_X6_isAddressed_79 K46 n)
set_option maxRecDepth 100000 in
set_option maxHeartbeats 4000000 in
theorem xn_X6_isAddressed_79 {l : Launch} {D : va_G} {A : Nat → ClassId} {B : Nat} {Z : State → Heap → Prop} {vF : Value} (uk : uK B Z vF) (un : uX A B Z) {K46 : Nat → Int32 → Int32 → uS → Option (uS × Bool)} (hK46 : ∀ (k1 : Nat) (x2 : Int32) (x3 : Int32) (hk1 : uSo k1 3) (s : uS) (r : (uS × Bool)), K46 k1 x2 x3 s = some r → GU l D A B Z mX6_isAddressed 7 (r.1, some (.int (bI r.2))) s 46 [(0, .ref (B + 1053)), (1, .ref (B + k1)), (2, .int x2), (3, .int x3)] []) : ∀ (n : Nat) (k1 : Nat) (x2 : Int32) (x3 : Int32) (b4 : Bool) (x5 : Int32) (hk1 : uSo k1 3) (s : uS) (r : (uS × Bool)), fn_X6_isAddressed_79 K46 n k1 x2 x3 b4 x5 s = some r → GU l D A B Z mX6_isAddressed 7 (r.1, some (.int (bI r.2))) s 79 [(0, .ref (B + 1053)), (1, .ref (B + k1)), (2, .int x2), (3, .int x3), (4, .int (bI b4)), (5, .int x5)] [] := by
  intro n
  induction n with
  | zero => intro k1 x2 x3 b4 x5 hk1 s r h
            cases h
  | succ n ih => intro k1 x2 x3 b4 x5 hk1 s r h
                 exact xb_X6_isAddressed_79 uk un hK46 ih hk1 h
def fb_X6_isAddressed_46 (K46 : Nat → Int32 → Int32 → uS → Option (uS × Bool)) (k1 : Nat) (x2 : Int32) (x3 : Int32) (s : uS) : Option (uS × Bool) := if (s.I 1062 3) ≤ x3 then (some (s, false)) else ((fn_X9_isSameText 1062 x3 1047 x2 true s).bind fun v2 => fn_X6_isAddressed_79 K46 uFu k1 x2 x3 v2 0 s)
set_option maxRecDepth 100000 in
set_option maxHeartbeats 4000000 in
theorem xb_X6_isAddressed_46 {l : Launch} {D : va_G} {A : Nat → ClassId} {B : Nat} {Z : State → Heap → Prop} {vF : Value} (uk : uK B Z vF) (un : uX A B Z) {K46 : Nat → Int32 → Int32 → uS → Option (uS × Bool)} (hK46 : ∀ (k1 : Nat) (x2 : Int32) (x3 : Int32) (hk1 : uSo k1 3) (s : uS) (r : (uS × Bool)), K46 k1 x2 x3 s = some r → GU l D A B Z mX6_isAddressed 7 (r.1, some (.int (bI r.2))) s 46 [(0, .ref (B + 1053)), (1, .ref (B + k1)), (2, .int x2), (3, .int x3)] []) {k1 : Nat} {x2 : Int32} {x3 : Int32} {s : uS} {r : (uS × Bool)} (hk1 : uSo k1 3) (h : fb_X6_isAddressed_46 K46 k1 x2 x3 s = some r) : GU l D A B Z mX6_isAddressed 7 (r.1, some (.int (bI r.2))) s 46 [(0, .ref (B + 1053)), (1, .ref (B + k1)), (2, .int x2), (3, .int x3)] [] := by
  unfold fb_X6_isAddressed_46 at h
  refine uu_iload_n dX6_isAddressed_46 rfl (List.mem_of_getElem? (i := 3) rfl) ?_
  refine uu_aload_n dX6_isAddressed_47 rfl (List.mem_of_getElem? (i := 0) rfl) ?_
  refine uu_geta (ci := 6) (N := 6) fX6_21 (by decide) so_1053.is (by decide) (c := 1062) (by decide) dX6_isAddressed_48 ?_
  refine uu_geti (ci := 9) (N := 6) fX6_62 (by decide) so_1062.is (by decide) (by decide) dX6_isAddressed_51 ?_
  refine uu_icmp_ge (tgt := 140) dX6_isAddressed_54 (by decide) (fun c1 => ?_) (fun c1 => ?_)
  · replace h := uu_pos c1 h
    refine uu_iconst (v := 0) dX6_isAddressed_140 (by decide) ?_
    have hr := Option.some.inj h
    subst hr
    exact uu_zret (x := bI false) rfl (bI_z _) dX6_isAddressed_141
  · replace h := uu_neg c1 h
    refine uu_aload_n dX6_isAddressed_57 rfl (List.mem_of_getElem? (i := 0) rfl) ?_
    refine uu_geta (ci := 6) (N := 6) fX6_21 (by decide) so_1053.is (by decide) (c := 1062) (by decide) dX6_isAddressed_58 ?_
    refine uu_iload_n dX6_isAddressed_61 rfl (List.mem_of_getElem? (i := 3) rfl) ?_
    refine uu_aload_n dX6_isAddressed_62 rfl (List.mem_of_getElem? (i := 0) rfl) ?_
    refine uu_geta (ci := 6) (N := 6) fX6_27 (by decide) so_1053.is (by decide) (c := 1042) (by decide) dX6_isAddressed_63 ?_
    refine uu_geta (ci := 0) (N := 12) fX6_156 (by decide) so_1042.is (by decide) (c := 1047) (by decide) dX6_isAddressed_66 ?_
    refine uu_iload_n dX6_isAddressed_69 rfl (List.mem_of_getElem? (i := 2) rfl) ?_
    refine uu_iconst (v := 1) dX6_isAddressed_70 (by decide) ?_
    obtain ⟨v2, e3, h⟩ := uu_ob h
    refine uu_cv (d1 := 1) (k := 1062) (ci := 9) (T := TX9) (N := 6) (As := [.int x3, .ref (B + 1047), .int x2, .int 1]) (st := []) (st' := [.int (bI v2)]) (xc_X9_isSameText uk so_1062 so_1047 e3) so_1062.is (by decide) rfl kX9_isSameText lX6_143 sX9_isSameText (by decide) (Nat.le_of_ble_eq_true rfl) dX6_isAddressed_71 rfl ?_
    refine uu_istore dX6_isAddressed_74 (by decide) rfl ?_
    refine uu_iconst (v := 0) dX6_isAddressed_76 (by decide) ?_
    refine uu_istore dX6_isAddressed_77 (by decide) rfl ?_
    refine uu_lv [2, 3, 4, 5, 1, 0] (lv' := [(0, .ref (B + 1053)), (1, .ref (B + k1)), (2, .int x2), (3, .int x3), (4, .int (bI v2)), (5, .int 0)]) rfl ?_
    exact xn_X6_isAddressed_79 uk un hK46 _ _ _ _ _ _ hk1 _ _ h
def fn_X6_isAddressed_46  : Nat → Nat → Int32 → Int32 → uS → Option (uS × Bool)
  | 0 => fun _ _ _ _ => none
  | n + 1 => fb_X6_isAddressed_46 (fn_X6_isAddressed_46  n)
set_option maxRecDepth 100000 in
set_option maxHeartbeats 4000000 in
theorem xn_X6_isAddressed_46 {l : Launch} {D : va_G} {A : Nat → ClassId} {B : Nat} {Z : State → Heap → Prop} {vF : Value} (uk : uK B Z vF) (un : uX A B Z)   : ∀ (n : Nat) (k1 : Nat) (x2 : Int32) (x3 : Int32) (hk1 : uSo k1 3) (s : uS) (r : (uS × Bool)), fn_X6_isAddressed_46  n k1 x2 x3 s = some r → GU l D A B Z mX6_isAddressed 7 (r.1, some (.int (bI r.2))) s 46 [(0, .ref (B + 1053)), (1, .ref (B + k1)), (2, .int x2), (3, .int x3)] [] := by
  intro n
  induction n with
  | zero => intro k1 x2 x3 hk1 s r h
            cases h
  | succ n ih => intro k1 x2 x3 hk1 s r h
                 exact xb_X6_isAddressed_46 uk un ih hk1 h
def fb_X6_isAddressed_9 (K9 : Nat → Int32 → Int32 → uS → Option (uS × Bool)) (k1 : Nat) (x2 : Int32) (x3 : Int32) (s : uS) : Option (uS × Bool) := if (s.I 1054 3) ≤ x3 then (fn_X6_isAddressed_46 uFu k1 x2 0 s) else ((fn_X9_placeIn 1054 kW_58 x3 s).bind fun v3 => if v3 < 0 then (K9 k1 x2 (x3 + 1) s) else ((fn_X6_findAddresses x3 s).bind fun s6 => K9 k1 x2 (x3 + 1) s6))
set_option maxRecDepth 100000 in
set_option maxHeartbeats 4000000 in
theorem xb_X6_isAddressed_9 {l : Launch} {D : va_G} {A : Nat → ClassId} {B : Nat} {Z : State → Heap → Prop} {vF : Value} (uk : uK B Z vF) (un : uX A B Z) {K9 : Nat → Int32 → Int32 → uS → Option (uS × Bool)} (hK9 : ∀ (k1 : Nat) (x2 : Int32) (x3 : Int32) (hk1 : uSo k1 3) (s : uS) (r : (uS × Bool)), K9 k1 x2 x3 s = some r → GU l D A B Z mX6_isAddressed 7 (r.1, some (.int (bI r.2))) s 9 [(0, .ref (B + 1053)), (1, .ref (B + k1)), (2, .int x2), (3, .int x3)] []) {k1 : Nat} {x2 : Int32} {x3 : Int32} {s : uS} {r : (uS × Bool)} (hk1 : uSo k1 3) (h : fb_X6_isAddressed_9 K9 k1 x2 x3 s = some r) : GU l D A B Z mX6_isAddressed 7 (r.1, some (.int (bI r.2))) s 9 [(0, .ref (B + 1053)), (1, .ref (B + k1)), (2, .int x2), (3, .int x3)] [] := by
  unfold fb_X6_isAddressed_9 at h
  refine uu_iload_n dX6_isAddressed_9 rfl (List.mem_of_getElem? (i := 3) rfl) ?_
  refine uu_aload_n dX6_isAddressed_10 rfl (List.mem_of_getElem? (i := 0) rfl) ?_
  refine uu_geta (ci := 6) (N := 6) fX6_14 (by decide) so_1053.is (by decide) (c := 1054) (by decide) dX6_isAddressed_11 ?_
  refine uu_geti (ci := 9) (N := 6) fX6_62 (by decide) so_1054.is (by decide) (by decide) dX6_isAddressed_14 ?_
  refine uu_icmp_ge (tgt := 44) dX6_isAddressed_17 (by decide) (fun c1 => ?_) (fun c1 => ?_)
  · replace h := uu_pos c1 h
    refine uu_iconst (v := 0) dX6_isAddressed_44 (by decide) ?_
    refine uu_istore_n dX6_isAddressed_45 rfl (by decide) rfl ?_
    refine uu_lv [1, 2, 3, 0] (lv' := [(0, .ref (B + 1053)), (1, .ref (B + k1)), (2, .int x2), (3, .int 0)]) rfl ?_
    exact xn_X6_isAddressed_46 uk un  _ _ _ _ hk1 _ _ h
  · replace h := uu_neg c1 h
    refine uu_aload_n dX6_isAddressed_20 rfl (List.mem_of_getElem? (i := 0) rfl) ?_
    refine uu_geta (ci := 6) (N := 6) fX6_14 (by decide) so_1053.is (by decide) (c := 1054) (by decide) dX6_isAddressed_21 ?_
    obtain ⟨cq2, cp2, cv2, cw2⟩ := uk.2.1 58 _ rfl
    refine uu_ldcS cv2 dX6_isAddressed_24 ?_
    refine uu_iload_n dX6_isAddressed_26 rfl (List.mem_of_getElem? (i := 3) rfl) ?_
    obtain ⟨v3, e4, h⟩ := uu_ob h
    refine uu_cv (d1 := 5) (k := 1054) (ci := 9) (T := TX9) (N := 6) (As := [.ref cq2, .int x3]) (st := []) (st' := [.int v3]) (xc_X9_placeIn uk so_1054 cw2 e4) so_1054.is (by decide) rfl kX9_placeIn lX6_218 sX9_placeIn (by decide) (Nat.le_of_ble_eq_true rfl) dX6_isAddressed_27 rfl ?_
    refine uu_if_lt (tgt := 38) dX6_isAddressed_30 (by decide) (fun c5 => ?_) (fun c5 => ?_)
    · replace h := uu_pos c5 h
      refine uu_iinc (v := x3 + 1) dX6_isAddressed_38 (k := 3) rfl rfl (by decide) rfl ?_
      refine uu_goto (tgt := 9) dX6_isAddressed_41 (by decide) ?_
      refine uu_lv [1, 2, 3, 0] (lv' := [(0, .ref (B + 1053)), (1, .ref (B + k1)), (2, .int x2), (3, .int (x3 + 1))]) rfl ?_
      exact hK9 k1 x2 (x3 + 1) hk1 _ _ h
    · replace h := uu_neg c5 h
      refine uu_aload_n dX6_isAddressed_33 rfl (List.mem_of_getElem? (i := 0) rfl) ?_
      refine uu_iload_n dX6_isAddressed_34 rfl (List.mem_of_getElem? (i := 3) rfl) ?_
      obtain ⟨s6, e7, h⟩ := uu_ob h
      refine uu_cv (d1 := 6) (k := 1053) (ci := 6) (T := TX6) (N := 6) (As := [.int x3]) (st := []) (st' := []) (xc_X6_findAddresses uk un  e7) so_1053.is (by decide) rfl kX6_findAddresses lX6_115 sX6_findAddresses (by decide) (Nat.le_of_ble_eq_true rfl) dX6_isAddressed_35 rfl ?_
      refine uu_iinc (v := x3 + 1) dX6_isAddressed_38 (k := 3) rfl rfl (by decide) rfl ?_
      refine uu_goto (tgt := 9) dX6_isAddressed_41 (by decide) ?_
      refine uu_lv [1, 2, 3, 0] (lv' := [(0, .ref (B + 1053)), (1, .ref (B + k1)), (2, .int x2), (3, .int (x3 + 1))]) rfl ?_
      exact hK9 k1 x2 (x3 + 1) hk1 _ _ h
def fn_X6_isAddressed_9  : Nat → Nat → Int32 → Int32 → uS → Option (uS × Bool)
  | 0 => fun _ _ _ _ => none
  | n + 1 => fb_X6_isAddressed_9 (fn_X6_isAddressed_9  n)
set_option maxRecDepth 100000 in
set_option maxHeartbeats 4000000 in
theorem xn_X6_isAddressed_9 {l : Launch} {D : va_G} {A : Nat → ClassId} {B : Nat} {Z : State → Heap → Prop} {vF : Value} (uk : uK B Z vF) (un : uX A B Z)   : ∀ (n : Nat) (k1 : Nat) (x2 : Int32) (x3 : Int32) (hk1 : uSo k1 3) (s : uS) (r : (uS × Bool)), fn_X6_isAddressed_9  n k1 x2 x3 s = some r → GU l D A B Z mX6_isAddressed 7 (r.1, some (.int (bI r.2))) s 9 [(0, .ref (B + 1053)), (1, .ref (B + k1)), (2, .int x2), (3, .int x3)] [] := by
  intro n
  induction n with
  | zero => intro k1 x2 x3 hk1 s r h
            cases h
  | succ n ih => intro k1 x2 x3 hk1 s r h
                 exact xb_X6_isAddressed_9 uk un ih hk1 h
def fn_X6_isAddressed (k1 : Nat) (x2 : Int32) (s : uS) : Option (uS × Bool) := (fn_X9_clear 1062 s).bind fun s1 => fn_X6_isAddressed_9 uFu k1 x2 0 s1
set_option maxRecDepth 100000 in
set_option maxHeartbeats 4000000 in
theorem xc_X6_isAddressed {l : Launch} {D : va_G} {A : Nat → ClassId} {B : Nat} {Z : State → Heap → Prop} {vF : Value} (uk : uK B Z vF) (un : uX A B Z) {k1 : Nat} {x2 : Int32} {s : uS} {r : (uS × Bool)} (hk1 : uSo k1 3) (h : fn_X6_isAddressed k1 x2 s = some r) : CU l D A B Z 7 mX6_isAddressed s [.ref (B + 1053), .ref (B + k1), .int x2] (r.1, some (.int (bI r.2))) := by
  unfold fn_X6_isAddressed at h
  refine cu_of rfl uk.1.1 (Nat.le_of_ble_eq_true rfl) ?_
  show GU _ _ _ _ _ _ _ _ _ 0 [(0, .ref (B + 1053)), (1, .ref (B + k1)), (2, .int x2)] []
  refine uu_aload_n dX6_isAddressed_0 rfl (List.mem_of_getElem? (i := 0) rfl) ?_
  refine uu_geta (ci := 6) (N := 6) fX6_21 (by decide) so_1053.is (by decide) (c := 1062) (by decide) dX6_isAddressed_1 ?_
  obtain ⟨s1, e2, h⟩ := uu_ob h
  refine uu_cv (d1 := 0) (k := 1062) (ci := 9) (T := TX9) (N := 6) (As := []) (st := []) (st' := []) (xc_X9_clear uk so_1062 e2) so_1062.is (by decide) rfl kX9_clear lX6_34 sX9_clear (by decide) (Nat.le_of_ble_eq_true rfl) dX6_isAddressed_4 rfl ?_
  refine uu_iconst (v := 0) dX6_isAddressed_7 (by decide) ?_
  refine uu_istore_n dX6_isAddressed_8 rfl (by decide) rfl ?_
  refine uu_lv [1, 2, 3, 0] (lv' := [(0, .ref (B + 1053)), (1, .ref (B + k1)), (2, .int x2), (3, .int 0)]) rfl ?_
  exact xn_X6_isAddressed_9 uk un  _ _ _ _ hk1 _ _ h
