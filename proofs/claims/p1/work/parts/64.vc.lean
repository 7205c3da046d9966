abbrev mX4_isAskedFor : hM := (yX4_isAskedFor, cX4_isAskedFor, 9, (some (.boolean)))
theorem dX4_isAskedFor_118 : decode cX4_isAskedFor 118 = .ok (.ior, 1) := by decide +kernel
theorem dX4_isAskedFor_119 : decode cX4_isAskedFor 119 = .ok (.putfield 106, 3) := by decide +kernel
theorem dX4_isAskedFor_122 : decode cX4_isAskedFor 122 = .ok (.iload 7, 2) := by decide +kernel
theorem dX4_isAskedFor_124 : decode cX4_isAskedFor 124 = .ok (.ifCond .lt 7, 3) := by decide +kernel
theorem dX4_isAskedFor_131 : decode cX4_isAskedFor 131 = .ok (.iconst 0, 1) := by decide +kernel
theorem dX4_isAskedFor_132 : decode cX4_isAskedFor 132 = .ok (.ireturn, 1) := by decide +kernel
theorem dX4_isAskedFor_127 : decode cX4_isAskedFor 127 = .ok (.iconst 1, 1) := by decide +kernel
theorem dX4_isAskedFor_128 : decode cX4_isAskedFor 128 = .ok (.goto 4, 3) := by decide +kernel
theorem dX4_isAskedFor_0 : decode cX4_isAskedFor 0 = .ok (.aload_n 0, 1) := by decide +kernel
theorem dX4_isAskedFor_1 : decode cX4_isAskedFor 1 = .ok (.getfield 10, 3) := by decide +kernel
theorem fX4_188 : h_fl RX4 188 2 0 RX2 TX2 9 := ⟨rfl, by decide, inX2, h_t1 114 rfl rfl⟩
theorem dX4_isAskedFor_4 : decode cX4_isAskedFor 4 = .ok (.getfield 188, 3) := by decide +kernel
theorem dX4_isAskedFor_7 : decode cX4_isAskedFor 7 = .ok (.astore 4, 2) := by decide +kernel
theorem dX4_isAskedFor_9 : decode cX4_isAskedFor 9 = .ok (.aload 4, 2) := by decide +kernel
theorem dX4_isAskedFor_11 : decode cX4_isAskedFor 11 = .ok (.getfield 204, 3) := by decide +kernel
theorem dX4_isAskedFor_14 : decode cX4_isAskedFor 14 = .ok (.iload_n 3, 1) := by decide +kernel
theorem dX4_isAskedFor_15 : decode cX4_isAskedFor 15 = .ok (.iaload, 1) := by decide +kernel
theorem dX4_isAskedFor_16 : decode cX4_isAskedFor 16 = .ok (.istore 5, 2) := by decide +kernel
theorem dX4_isAskedFor_18 : decode cX4_isAskedFor 18 = .ok (.aload 4, 2) := by decide +kernel
theorem dX4_isAskedFor_20 : decode cX4_isAskedFor 20 = .ok (.getfield 207, 3) := by decide +kernel
theorem dX4_isAskedFor_23 : decode cX4_isAskedFor 23 = .ok (.iload_n 3, 1) := by decide +kernel
theorem dX4_isAskedFor_24 : decode cX4_isAskedFor 24 = .ok (.iaload, 1) := by decide +kernel
theorem dX4_isAskedFor_25 : decode cX4_isAskedFor 25 = .ok (.istore 6, 2) := by decide +kernel
theorem dX4_isAskedFor_27 : decode cX4_isAskedFor 27 = .ok (.iload_n 2, 1) := by decide +kernel
theorem dX4_isAskedFor_28 : decode cX4_isAskedFor 28 = .ok (.tableswitch 245 2 11 #[185, 225, 232, 245, 245, 245, 245, 105, 136, 56], 56) := by decide +kernel
theorem dX4_isAskedFor_213 : decode cX4_isAskedFor 213 = .ok (.ldc 232, 2) := by decide +kernel
theorem dX4_isAskedFor_215 : decode cX4_isAskedFor 215 = .ok (.aload 4, 2) := by decide +kernel
theorem dX4_isAskedFor_217 : decode cX4_isAskedFor 217 = .ok (.getfield 212, 3) := by decide +kernel
theorem dX4_isAskedFor_220 : decode cX4_isAskedFor 220 = .ok (.iload 5, 2) := by decide +kernel
theorem dX4_isAskedFor_222 : decode cX4_isAskedFor 222 = .ok (.iload 6, 2) := by decide +kernel
theorem lX4_216 : Cond.methodLink RX4 216 mX9_place.1 ∈ lw_g := h_t5 109 rfl rfl
theorem dX4_isAskedFor_224 : decode cX4_isAskedFor 224 = .ok (.invokestatic 216, 3) := by decide +kernel
theorem dX4_isAskedFor_227 : decode cX4_isAskedFor 227 = .ok (.istore 8, 2) := by decide +kernel
theorem dX4_isAskedFor_229 : decode cX4_isAskedFor 229 = .ok (.aload_n 1, 1) := by decide +kernel
theorem dX4_isAskedFor_230 : decode cX4_isAskedFor 230 = .ok (.dup, 1) := by decide +kernel
theorem fX4_234 : h_fl RX4 234 3 11 RX3 TX3 15 := ⟨rfl, by decide, inX3, h_t1 181 rfl rfl⟩
theorem dX4_isAskedFor_231 : decode cX4_isAskedFor 231 = .ok (.getfield 234, 3) := by decide +kernel
theorem dX4_isAskedFor_234 : decode cX4_isAskedFor 234 = .ok (.iload 8, 2) := by decide +kernel
theorem dX4_isAskedFor_236 : decode cX4_isAskedFor 236 = .ok (.ifCond .ge 7, 3) := by decide +kernel
theorem dX4_isAskedFor_243 : decode cX4_isAskedFor 243 = .ok (.iconst 1, 1) := by decide +kernel
theorem dX4_isAskedFor_244 : decode cX4_isAskedFor 244 = .ok (.iload 8, 2) := by decide +kernel
theorem dX4_isAskedFor_246 : decode cX4_isAskedFor 246 = .ok (.ishl, 1) := by decide +kernel
theorem dX4_isAskedFor_247 : decode cX4_isAskedFor 247 = .ok (.ior, 1) := by decide +kernel
theorem dX4_isAskedFor_248 : decode cX4_isAskedFor 248 = .ok (.putfield 234, 3) := by decide +kernel
theorem dX4_isAskedFor_251 : decode cX4_isAskedFor 251 = .ok (.iconst 1, 1) := by decide +kernel
theorem dX4_isAskedFor_252 : decode cX4_isAskedFor 252 = .ok (.ireturn, 1) := by decide +kernel
theorem dX4_isAskedFor_239 : decode cX4_isAskedFor 239 = .ok (.iconst 0, 1) := by decide +kernel
theorem dX4_isAskedFor_240 : decode cX4_isAskedFor 240 = .ok (.goto 7, 3) := by decide +kernel
theorem dX4_isAskedFor_253 : decode cX4_isAskedFor 253 = .ok (.aload 4, 2) := by decide +kernel
theorem dX4_isAskedFor_255 : decode cX4_isAskedFor 255 = .ok (.iload_n 3, 1) := by decide +kernel
theorem kX4_isBoxName : h_ml mX4_isBoxName 2 := ⟨h_t5 115 rfl rfl, h_t1 2 rfl rfl, ⟨by decide, by decide, by decide +kernel⟩, by decide⟩
theorem lX4_237 : Cond.methodLink RX4 237 mX4_isBoxName.1 ∈ lw_g := h_t5 113 rfl rfl
theorem sX4_isBoxName : Cond.static mX4_isBoxName.1 ∈ lw_g := h_t5 114 rfl rfl
theorem dX4_isAskedFor_256 : decode cX4_isAskedFor 256 = .ok (.invokestatic 237, 3) := by decide +kernel
theorem dX4_isAskedFor_259 : decode cX4_isAskedFor 259 = .ok (.ireturn, 1) := by decide +kernel
theorem dX4_isAskedFor_260 : decode cX4_isAskedFor 260 = .ok (.aload 4, 2) := by decide +kernel
theorem dX4_isAskedFor_262 : decode cX4_isAskedFor 262 = .ok (.getfield 212, 3) := by decide +kernel
theorem dX4_isAskedFor_265 : decode cX4_isAskedFor 265 = .ok (.iload 5, 2) := by decide +kernel
theorem dX4_isAskedFor_267 : decode cX4_isAskedFor 267 = .ok (.iload 6, 2) := by decide +kernel
theorem lX4_241 : Cond.methodLink RX4 241 mX9_isAddress.1 ∈ lw_g := h_t5 120 rfl rfl
theorem dX4_isAskedFor_269 : decode cX4_isAskedFor 269 = .ok (.invokestatic 241, 3) := by decide +kernel
theorem dX4_isAskedFor_272 : decode cX4_isAskedFor 272 = .ok (.ireturn, 1) := by decide +kernel
theorem dX4_isAskedFor_273 : decode cX4_isAskedFor 273 = .ok (.iconst 1, 1) := by decide +kernel
theorem dX4_isAskedFor_274 : decode cX4_isAskedFor 274 = .ok (.ireturn, 1) := by decide +kernel
theorem dX4_isAskedFor_133 : decode cX4_isAskedFor 133 = .ok (.aload_n 1, 1) := by decide +kernel
theorem dX4_isAskedFor_134 : decode cX4_isAskedFor 134 = .ok (.ldc 220, 2) := by decide +kernel
theorem dX4_isAskedFor_136 : decode cX4_isAskedFor 136 = .ok (.aload 4, 2) := by decide +kernel
theorem dX4_isAskedFor_138 : decode cX4_isAskedFor 138 = .ok (.getfield 212, 3) := by decide +kernel
theorem dX4_isAskedFor_141 : decode cX4_isAskedFor 141 = .ok (.iload 5, 2) := by decide +kernel
theorem dX4_isAskedFor_143 : decode cX4_isAskedFor 143 = .ok (.iload 6, 2) := by decide +kernel
theorem dX4_isAskedFor_145 : decode cX4_isAskedFor 145 = .ok (.invokestatic 216, 3) := by decide +kernel
theorem fX4_222 : h_fl RX4 222 3 7 RX3 TX3 15 := ⟨rfl, by decide, inX3, h_t1 169 rfl rfl⟩
theorem dX4_isAskedFor_148 : decode cX4_isAskedFor 148 = .ok (.putfield 222, 3) := by decide +kernel
theorem dX4_isAskedFor_151 : decode cX4_isAskedFor 151 = .ok (.aload_n 1, 1) := by decide +kernel
theorem dX4_isAskedFor_152 : decode cX4_isAskedFor 152 = .ok (.getfield 222, 3) := by decide +kernel
theorem dX4_isAskedFor_155 : decode cX4_isAskedFor 155 = .ok (.ifCond .lt 7, 3) := by decide +kernel
theorem dX4_isAskedFor_162 : decode cX4_isAskedFor 162 = .ok (.iconst 0, 1) := by decide +kernel
theorem dX4_isAskedFor_163 : decode cX4_isAskedFor 163 = .ok (.ireturn, 1) := by decide +kernel
theorem dX4_isAskedFor_158 : decode cX4_isAskedFor 158 = .ok (.iconst 1, 1) := by decide +kernel
theorem dX4_isAskedFor_159 : decode cX4_isAskedFor 159 = .ok (.goto 4, 3) := by decide +kernel
theorem dX4_isAskedFor_164 : decode cX4_isAskedFor 164 = .ok (.aload_n 1, 1) := by decide +kernel
theorem dX4_isAskedFor_165 : decode cX4_isAskedFor 165 = .ok (.ldc 225, 2) := by decide +kernel
theorem dX4_isAskedFor_167 : decode cX4_isAskedFor 167 = .ok (.aload 4, 2) := by decide +kernel
theorem dX4_isAskedFor_169 : decode cX4_isAskedFor 169 = .ok (.getfield 212, 3) := by decide +kernel
theorem dX4_isAskedFor_172 : decode cX4_isAskedFor 172 = .ok (.iload 5, 2) := by decide +kernel
theorem dX4_isAskedFor_174 : decode cX4_isAskedFor 174 = .ok (.iload 6, 2) := by decide +kernel
theorem dX4_isAskedFor_176 : decode cX4_isAskedFor 176 = .ok (.invokestatic 216, 3) := by decide +kernel
theorem fX4_227 : h_fl RX4 227 3 8 RX3 TX3 15 := ⟨rfl, by decide, inX3, h_t1 172 rfl rfl⟩
theorem dX4_isAskedFor_179 : decode cX4_isAskedFor 179 = .ok (.putfield 227, 3) := by decide +kernel
theorem dX4_isAskedFor_182 : decode cX4_isAskedFor 182 = .ok (.aload_n 1, 1) := by decide +kernel
theorem dX4_isAskedFor_183 : decode cX4_isAskedFor 183 = .ok (.getfield 227, 3) := by decide +kernel
theorem dX4_isAskedFor_186 : decode cX4_isAskedFor 186 = .ok (.ifCond .lt 25, 3) := by decide +kernel
theorem dX4_isAskedFor_211 : decode cX4_isAskedFor 211 = .ok (.iconst 0, 1) := by decide +kernel
theorem dX4_isAskedFor_212 : decode cX4_isAskedFor 212 = .ok (.ireturn, 1) := by decide +kernel
theorem dX4_isAskedFor_189 : decode cX4_isAskedFor 189 = .ok (.aload_n 1, 1) := by decide +kernel
theorem dX4_isAskedFor_190 : decode cX4_isAskedFor 190 = .ok (.getfield 227, 3) := by decide +kernel
theorem dX4_isAskedFor_193 : decode cX4_isAskedFor 193 = .ok (.iconst 2, 1) := by decide +kernel
theorem dX4_isAskedFor_194 : decode cX4_isAskedFor 194 = .ok (.if_icmp .ne 13, 3) := by decide +kernel
theorem dX4_isAskedFor_207 : decode cX4_isAskedFor 207 = .ok (.iconst 1, 1) := by decide +kernel
theorem dX4_isAskedFor_208 : decode cX4_isAskedFor 208 = .ok (.goto 4, 3) := by decide +kernel
theorem dX4_isAskedFor_197 : decode cX4_isAskedFor 197 = .ok (.aload_n 0, 1) := by decide +kernel
theorem dX4_isAskedFor_198 : decode cX4_isAskedFor 198 = .ok (.sipush 128, 3) := by decide +kernel
theorem dX4_isAskedFor_201 : decode cX4_isAskedFor 201 = .ok (.invokevirtual 143, 3) := by decide +kernel
theorem dX4_isAskedFor_204 : decode cX4_isAskedFor 204 = .ok (.ifCond .ne 7, 3) := by decide +kernel
theorem dX4_isAskedFor_84 : decode cX4_isAskedFor 84 = .ok (.ldc 210, 2) := by decide +kernel
theorem dX4_isAskedFor_86 : decode cX4_isAskedFor 86 = .ok (.aload 4, 2) := by decide +kernel
theorem dX4_isAskedFor_88 : decode cX4_isAskedFor 88 = .ok (.getfield 212, 3) := by decide +kernel
theorem dX4_isAskedFor_91 : decode cX4_isAskedFor 91 = .ok (.iload 5, 2) := by decide +kernel
theorem dX4_isAskedFor_93 : decode cX4_isAskedFor 93 = .ok (.iload 6, 2) := by decide +kernel
theorem dX4_isAskedFor_95 : decode cX4_isAskedFor 95 = .ok (.invokestatic 216, 3) := by decide +kernel
theorem dX4_isAskedFor_98 : decode cX4_isAskedFor 98 = .ok (.istore 7, 2) := by decide +kernel
theorem dX4_isAskedFor_100 : decode cX4_isAskedFor 100 = .ok (.aload_n 0, 1) := by decide +kernel
theorem dX4_isAskedFor_101 : decode cX4_isAskedFor 101 = .ok (.dup, 1) := by decide +kernel
theorem dX4_isAskedFor_102 : decode cX4_isAskedFor 102 = .ok (.getfield 106, 3) := by decide +kernel
theorem dX4_isAskedFor_105 : decode cX4_isAskedFor 105 = .ok (.iload 7, 2) := by decide +kernel
theorem dX4_isAskedFor_107 : decode cX4_isAskedFor 107 = .ok (.ifCond .ge 7, 3) := by decide +kernel
theorem dX4_isAskedFor_114 : decode cX4_isAskedFor 114 = .ok (.iconst 1, 1) := by decide +kernel
theorem dX4_isAskedFor_115 : decode cX4_isAskedFor 115 = .ok (.iload 7, 2) := by decide +kernel
theorem dX4_isAskedFor_117 : decode cX4_isAskedFor 117 = .ok (.ishl, 1) := by decide +kernel
theorem dX4_isAskedFor_110 : decode cX4_isAskedFor 110 = .ok (.iconst 0, 1) := by decide +kernel
theorem dX4_isAskedFor_111 : decode cX4_isAskedFor 111 = .ok (.goto 7, 3) := by decide +kernel
def fb_X4_isAskedFor_118  (x7 : Int32) (xs0 : Int32) (xs1 : Int32) (s : uS) : Option (uS × Bool) := if x7 < 0 then (some (wI s 6 8 (xs1 ||| xs0), false)) else (some (wI s 6 8 (xs1 ||| xs0), true))
set_option maxRecDepth 100000 in
set_option maxHeartbeats 4000000 in
theorem xb_X4_isAskedFor_118 {l : Launch} {D : va_G} {A : Nat → ClassId} {B : Nat} {Z : State → Heap → Prop} {vF : Value} (uk : uK B Z vF) (un : uX A B Z)   {x7 : Int32} {xs0 : Int32} {xs1 : Int32} {s : uS} {r : (uS × Bool)}  (h : fb_X4_isAskedFor_118  x7 xs0 xs1 s = some r) : GU l D A B Z mX4_isAskedFor 6 (r.1, some (.int (bI r.2))) s 118 [(7, .int x7)] [.int xs0, .int xs1, .ref (B + 6)] := by
  unfold fb_X4_isAskedFor_118 at h
  refine uu_ior dX4_isAskedFor_118 ?_
  refine uu_puti (ft := .int) (ci := 4) (N := 9) fX4_106 ptX4 (Or.inl rfl) (by decide) so_6.is (by decide) (by decide) (by decide +kernel) rfl rfl dX4_isAskedFor_119 ?_
  refine uu_iload dX4_isAskedFor_122 (List.mem_of_getElem? (i := 0) rfl) ?_
  refine uu_if_lt (tgt := 131) dX4_isAskedFor_124 (by decide) (fun c1 => ?_) (fun c1 => ?_)
  · replace h := uu_pos c1 h
    refine uu_iconst (v := 0) dX4_isAskedFor_131 (by decide) ?_
    have hr := Option.some.inj h
    subst hr
    exact uu_zret (x := bI false) rfl (bI_z _) dX4_isAskedFor_132
  · replace h := uu_neg c1 h
    refine uu_iconst (v := 1) dX4_isAskedFor_127 (by decide) ?_
    refine uu_goto (tgt := 132) dX4_isAskedFor_128 (by decide) ?_
    have hr := Option.some.inj h
    subst hr
    exact uu_zret (x := bI true) rfl (bI_z _) dX4_isAskedFor_132
def fn_X4_isAskedFor (k1 : Nat) (x2 : Int32) (x3 : Int32) (s : uS) : Option (uS × Bool) := (iget 20 s 10 x3).bind fun v1 => (iget 20 s 11 x3).bind fun v3 => if x2 = 2 then ((fn_X9_place kW_44 9 v1 v3 s).bind fun v6 => if 0 ≤ v6 then (some (wI s k1 11 ((s.I k1 11) ||| ((1 : Int32) <<< (v6 &&& 31))), true)) else (some (wI s k1 11 ((s.I k1 11) ||| 0), true))) else (if x2 = 3 then ((fn_X4_isBoxName 8 x3 s).bind fun v9 => some (s, v9)) else (if x2 = 4 then ((fn_X9_isAddress 9 v1 v3 s).bind fun v11 => some (s, v11)) else (if x2 = 5 then (some (s, true)) else (if x2 = 6 then (some (s, true)) else (if x2 = 7 then (some (s, true)) else (if x2 = 8 then (some (s, true)) else (if x2 = 9 then ((fn_X9_place kW_42 9 v1 v3 s).bind fun v14 => if ((wI s k1 7 v14).I k1 7) < 0 then (some (wI s k1 7 v14, false)) else (some (wI s k1 7 v14, true))) else (if x2 = 10 then ((fn_X9_place kW_43 9 v1 v3 s).bind fun v18 => if ((wI s k1 8 v18).I k1 8) < 0 then (some (wI s k1 8 v18, false)) else (if ((wI s k1 8 v18).I k1 8) = 2 then ((fn_X4_isLacking 128 (wI s k1 8 v18)).bind fun v22 => if v22 = true then (some (wI s k1 8 v18, false)) else (some (wI s k1 8 v18, true))) else (some (wI s k1 8 v18, true)))) else (if x2 = 11 then ((fn_X9_place kW_41 9 v1 v3 s).bind fun v26 => if 0 ≤ v26 then (fb_X4_isAskedFor_118 v26 ((1 : Int32) <<< (v26 &&& 31)) (s.I 6 8) s) else (fb_X4_isAskedFor_118 v26 0 (s.I 6 8) s)) else (some (s, true)))))))))))
set_option maxRecDepth 100000 in
set_option maxHeartbeats 4000000 in
theorem xc_X4_isAskedFor {l : Launch} {D : va_G} {A : Nat → ClassId} {B : Nat} {Z : State → Heap → Prop} {vF : Value} (uk : uK B Z vF) (un : uX A B Z) {k1 : Nat} {x2 : Int32} {x3 : Int32} {s : uS} {r : (uS × Bool)} (hk1 : uSo k1 3) (h : fn_X4_isAskedFor k1 x2 x3 s = some r) : CU l D A B Z 6 mX4_isAskedFor s [.ref (B + 6), .ref (B + k1), .int x2, .int x3] (r.1, some (.int (bI r.2))) := by
  unfold fn_X4_isAskedFor at h
  refine cu_of rfl uk.1.1 (Nat.le_of_ble_eq_true rfl) ?_
  show GU _ _ _ _ _ _ _ _ _ 0 [(0, .ref (B + 6)), (1, .ref (B + k1)), (2, .int x2), (3, .int x3)] []
  refine uu_aload_n dX4_isAskedFor_0 rfl (List.mem_of_getElem? (i := 0) rfl) ?_
  refine uu_geta (ci := 4) (N := 9) fX4_10 (by decide) so_6.is (by decide) (c := 7) (by decide) dX4_isAskedFor_1 ?_
  refine uu_geta (ci := 2) (N := 9) fX4_188 (by decide) so_7.is (by decide) (c := 8) (by decide) dX4_isAskedFor_4 ?_
  refine uu_astore dX4_isAskedFor_7 (by decide) rfl ?_
  refine uu_aload dX4_isAskedFor_9 (List.mem_of_getElem? (i := 0) rfl) ?_
  refine uu_getc (ci := 9) (N := 6) fX4_204 (by decide) so_8.is (by decide) (c := 2) (by decide) (k2 := 10) rfl dX4_isAskedFor_11 ?_
  refine uu_iload_n dX4_isAskedFor_14 rfl (List.mem_of_getElem? (i := 4) rfl) ?_
  obtain ⟨v1, e2, h⟩ := uu_ob h
  refine uu_iald e2 dX4_isAskedFor_15 ?_
  refine uu_istore dX4_isAskedFor_16 (by decide) rfl ?_
  refine uu_aload dX4_isAskedFor_18 (List.mem_of_getElem? (i := 1) rfl) ?_
  refine uu_getc (ci := 9) (N := 6) fX4_207 (by decide) so_8.is (by decide) (c := 3) (by decide) (k2 := 11) rfl dX4_isAskedFor_20 ?_
  refine uu_iload_n dX4_isAskedFor_23 rfl (List.mem_of_getElem? (i := 5) rfl) ?_
  obtain ⟨v3, e4, h⟩ := uu_ob h
  refine uu_iald e4 dX4_isAskedFor_24 ?_
  refine uu_istore dX4_isAskedFor_25 (by decide) rfl ?_
  refine uu_iload_n dX4_isAskedFor_27 rfl (List.mem_of_getElem? (i := 5) rfl) ?_
  by_cases c28_0 : x2 = 2
  · replace h := uu_pos c28_0 h
    refine uu_tabE (tgt := 213) (off := 185) (v := 2) dX4_isAskedFor_28 c28_0 (by decide) (by decide) rfl (by decide) ?_
    obtain ⟨cq5, cp5, cv5, cw5⟩ := uk.2.1 44 _ rfl
    refine uu_ldcS cv5 dX4_isAskedFor_213 ?_
    refine uu_aload dX4_isAskedFor_215 (List.mem_of_getElem? (i := 2) rfl) ?_
    refine uu_getc (ci := 9) (N := 6) fX4_212 (by decide) so_8.is (by decide) (c := 1) (by decide) (k2 := 9) rfl dX4_isAskedFor_217 ?_
    refine uu_iload dX4_isAskedFor_220 (List.mem_of_getElem? (i := 1) rfl) ?_
    refine uu_iload dX4_isAskedFor_222 (List.mem_of_getElem? (i := 0) rfl) ?_
    obtain ⟨v6, e7, h⟩ := uu_ob h
    refine uu_cs (d1 := 4) (As := [.ref cq5, .ref (B + 9), .int v1, .int v3]) (st := []) (st' := [.int v6]) (xc_X9_place uk cw5 e7) kX9_place lX4_216 sX9_place (by decide) (Nat.le_of_ble_eq_true rfl) dX4_isAskedFor_224 rfl ?_
    refine uu_istore dX4_isAskedFor_227 (by decide) rfl ?_
    refine uu_aload_n dX4_isAskedFor_229 rfl (List.mem_of_getElem? (i := 5) rfl) ?_
    refine uu_dup dX4_isAskedFor_230 rfl ?_
    refine uu_geti (ci := 3) (N := 15) fX4_234 (by decide) hk1.is (by decide) (by decide) dX4_isAskedFor_231 ?_
    refine uu_iload dX4_isAskedFor_234 (List.mem_of_getElem? (i := 0) rfl) ?_
    refine uu_if_ge (tgt := 243) dX4_isAskedFor_236 (by decide) (fun c8 => ?_) (fun c8 => ?_)
    · replace h := uu_pos c8 h
      refine uu_iconst (v := 1) dX4_isAskedFor_243 (by decide) ?_
      refine uu_iload dX4_isAskedFor_244 (List.mem_of_getElem? (i := 0) rfl) ?_
      refine uu_ishl dX4_isAskedFor_246 ?_
      refine uu_ior dX4_isAskedFor_247 ?_
      refine uu_puti (ft := .int) (ci := 3) (N := 15) fX4_234 ptX3 (Or.inl rfl) (by decide) hk1.is (by decide) (by decide) (by decide +kernel) rfl rfl dX4_isAskedFor_248 ?_
      refine uu_iconst (v := 1) dX4_isAskedFor_251 (by decide) ?_
      have hr := Option.some.inj h
      subst hr
      exact uu_zret (x := bI true) rfl (bI_z _) dX4_isAskedFor_252
    · replace h := uu_neg c8 h
      refine uu_iconst (v := 0) dX4_isAskedFor_239 (by decide) ?_
      refine uu_goto (tgt := 247) dX4_isAskedFor_240 (by decide) ?_
      refine uu_ior dX4_isAskedFor_247 ?_
      refine uu_puti (ft := .int) (ci := 3) (N := 15) fX4_234 ptX3 (Or.inl rfl) (by decide) hk1.is (by decide) (by decide) (by decide +kernel) rfl rfl dX4_isAskedFor_248 ?_
      refine uu_iconst (v := 1) dX4_isAskedFor_251 (by decide) ?_
      have hr := Option.some.inj h
      subst hr
      exact uu_zret (x := bI true) rfl (bI_z _) dX4_isAskedFor_252
  replace h := uu_neg c28_0 h
  by_cases c28_1 : x2 = 3
  · replace h := uu_pos c28_1 h
    refine uu_tabE (tgt := 253) (off := 225) (v := 3) dX4_isAskedFor_28 c28_1 (by decide) (by decide) rfl (by decide) ?_
    refine uu_aload dX4_isAskedFor_253 (List.mem_of_getElem? (i := 2) rfl) ?_
    refine uu_iload_n dX4_isAskedFor_255 rfl (List.mem_of_getElem? (i := 6) rfl) ?_
    obtain ⟨v9, e10, h⟩ := uu_ob h
    refine uu_cs (d1 := 1) (As := [.ref (B + 8), .int x3]) (st := []) (st' := [.int (bI v9)]) (xc_X4_isBoxName uk so_8 e10) kX4_isBoxName lX4_237 sX4_isBoxName (by decide) (Nat.le_of_ble_eq_true rfl) dX4_isAskedFor_256 rfl ?_
    have hr := Option.some.inj h
    subst hr
    exact uu_zret (x := bI v9) rfl (bI_z _) dX4_isAskedFor_259
  replace h := uu_neg c28_1 h
  by_cases c28_2 : x2 = 4
  · replace h := uu_pos c28_2 h
    refine uu_tabE (tgt := 260) (off := 232) (v := 4) dX4_isAskedFor_28 c28_2 (by decide) (by decide) rfl (by decide) ?_
    refine uu_aload dX4_isAskedFor_260 (List.mem_of_getElem? (i := 2) rfl) ?_
    refine uu_getc (ci := 9) (N := 6) fX4_212 (by decide) so_8.is (by decide) (c := 1) (by decide) (k2 := 9) rfl dX4_isAskedFor_262 ?_
    refine uu_iload dX4_isAskedFor_265 (List.mem_of_getElem? (i := 1) rfl) ?_
    refine uu_iload dX4_isAskedFor_267 (List.mem_of_getElem? (i := 0) rfl) ?_
    obtain ⟨v11, e12, h⟩ := uu_ob h
    refine uu_cs (d1 := 5) (As := [.ref (B + 9), .int v1, .int v3]) (st := []) (st' := [.int (bI v11)]) (xc_X9_isAddress uk un  e12) kX9_isAddress lX4_241 sX9_isAddress (by decide) (Nat.le_of_ble_eq_true rfl) dX4_isAskedFor_269 rfl ?_
    have hr := Option.some.inj h
    subst hr
    exact uu_zret (x := bI v11) rfl (bI_z _) dX4_isAskedFor_272
  replace h := uu_neg c28_2 h
  by_cases c28_3 : x2 = 5
  · replace h := uu_pos c28_3 h
    refine uu_tabE (tgt := 273) (off := 245) (v := 5) dX4_isAskedFor_28 c28_3 (by decide) (by decide) rfl (by decide) ?_
    refine uu_iconst (v := 1) dX4_isAskedFor_273 (by decide) ?_
    have hr := Option.some.inj h
    subst hr
    exact uu_zret (x := bI true) rfl (bI_z _) dX4_isAskedFor_274
  replace h := uu_neg c28_3 h
  by_cases c28_4 : x2 = 6
  · replace h := uu_pos c28_4 h
    refine uu_tabE (tgt := 273) (off := 245) (v := 6) dX4_isAskedFor_28 c28_4 (by decide) (by decide) rfl (by decide) ?_
    refine uu_iconst (v := 1) dX4_isAskedFor_273 (by decide) ?_
    have hr := Option.some.inj h
    subst hr
    exact uu_zret (x := bI true) rfl (bI_z _) dX4_isAskedFor_274
  replace h := uu_neg c28_4 h
  by_cases c28_5 : x2 = 7
  · replace h := uu_pos c28_5 h
    refine uu_tabE (tgt := 273) (off := 245) (v := 7) dX4_isAskedFor_28 c28_5 (by decide) (by decide) rfl (by decide) ?_
    refine uu_iconst (v := 1) dX4_isAskedFor_273 (by decide) ?_
    have hr := Option.some.inj h
    subst hr
    exact uu_zret (x := bI true) rfl (bI_z _) dX4_isAskedFor_274
  replace h := uu_neg c28_5 h
  by_cases c28_6 : x2 = 8
  · replace h := uu_pos c28_6 h
    refine uu_tabE (tgt := 273) (off := 245) (v := 8) dX4_isAskedFor_28 c28_6 (by decide) (by decide) rfl (by decide) ?_
    refine uu_iconst (v := 1) dX4_isAskedFor_273 (by decide) ?_
    have hr := Option.some.inj h
    subst hr
    exact uu_zret (x := bI true) rfl (bI_z _) dX4_isAskedFor_274
  replace h := uu_neg c28_6 h
  by_cases c28_7 : x2 = 9
  · replace h := uu_pos c28_7 h
    refine uu_tabE (tgt := 133) (off := 105) (v := 9) dX4_isAskedFor_28 c28_7 (by decide) (by decide) rfl (by decide) ?_
    refine uu_aload_n dX4_isAskedFor_133 rfl (List.mem_of_getElem? (i := 4) rfl) ?_
    obtain ⟨cq13, cp13, cv13, cw13⟩ := uk.2.1 42 _ rfl
    refine uu_ldcS cv13 dX4_isAskedFor_134 ?_
    refine uu_aload dX4_isAskedFor_136 (List.mem_of_getElem? (i := 2) rfl) ?_
    refine uu_getc (ci := 9) (N := 6) fX4_212 (by decide) so_8.is (by decide) (c := 1) (by decide) (k2 := 9) rfl dX4_isAskedFor_138 ?_
    refine uu_iload dX4_isAskedFor_141 (List.mem_of_getElem? (i := 1) rfl) ?_
    refine uu_iload dX4_isAskedFor_143 (List.mem_of_getElem? (i := 0) rfl) ?_
    obtain ⟨v14, e15, h⟩ := uu_ob h
    refine uu_cs (d1 := 4) (As := [.ref cq13, .ref (B + 9), .int v1, .int v3]) (st := [.ref (B + k1)]) (st' := [.int v14, .ref (B + k1)]) (xc_X9_place uk cw13 e15) kX9_place lX4_216 sX9_place (by decide) (Nat.le_of_ble_eq_true rfl) dX4_isAskedFor_145 rfl ?_
    refine uu_puti (ft := .int) (ci := 3) (N := 15) fX4_222 ptX3 (Or.inl rfl) (by decide) hk1.is (by decide) (by decide) (by decide +kernel) rfl rfl dX4_isAskedFor_148 ?_
    refine uu_aload_n dX4_isAskedFor_151 rfl (List.mem_of_getElem? (i := 4) rfl) ?_
    refine uu_geti (ci := 3) (N := 15) fX4_222 (by decide) hk1.is (by decide) (by decide) dX4_isAskedFor_152 ?_
    refine uu_if_lt (tgt := 162) dX4_isAskedFor_155 (by decide) (fun c16 => ?_) (fun c16 => ?_)
    · replace h := uu_pos c16 h
      refine uu_iconst (v := 0) dX4_isAskedFor_162 (by decide) ?_
      have hr := Option.some.inj h
      subst hr
      exact uu_zret (x := bI false) rfl (bI_z _) dX4_isAskedFor_163
    · replace h := uu_neg c16 h
      refine uu_iconst (v := 1) dX4_isAskedFor_158 (by decide) ?_
      refine uu_goto (tgt := 163) dX4_isAskedFor_159 (by decide) ?_
      have hr := Option.some.inj h
      subst hr
      exact uu_zret (x := bI true) rfl (bI_z _) dX4_isAskedFor_163
  replace h := uu_neg c28_7 h
  by_cases c28_8 : x2 = 10
  · replace h := uu_pos c28_8 h
    refine uu_tabE (tgt := 164) (off := 136) (v := 10) dX4_isAskedFor_28 c28_8 (by decide) (by decide) rfl (by decide) ?_
    refine uu_aload_n dX4_isAskedFor_164 rfl (List.mem_of_getElem? (i := 4) rfl) ?_
    obtain ⟨cq17, cp17, cv17, cw17⟩ := uk.2.1 43 _ rfl
    refine uu_ldcS cv17 dX4_isAskedFor_165 ?_
    refine uu_aload dX4_isAskedFor_167 (List.mem_of_getElem? (i := 2) rfl) ?_
    refine uu_getc (ci := 9) (N := 6) fX4_212 (by decide) so_8.is (by decide) (c := 1) (by decide) (k2 := 9) rfl dX4_isAskedFor_169 ?_
    refine uu_iload dX4_isAskedFor_172 (List.mem_of_getElem? (i := 1) rfl) ?_
    refine uu_iload dX4_isAskedFor_174 (List.mem_of_getElem? (i := 0) rfl) ?_
    obtain ⟨v18, e19, h⟩ := uu_ob h
    refine uu_cs (d1 := 4) (As := [.ref cq17, .ref (B + 9), .int v1, .int v3]) (st := [.ref (B + k1)]) (st' := [.int v18, .ref (B + k1)]) (xc_X9_place uk cw17 e19) kX9_place lX4_216 sX9_place (by decide) (Nat.le_of_ble_eq_true rfl) dX4_isAskedFor_176 rfl ?_
    refine uu_puti (ft := .int) (ci := 3) (N := 15) fX4_227 ptX3 (Or.inl rfl) (by decide) hk1.is (by decide) (by decide) (by decide +kernel) rfl rfl dX4_isAskedFor_179 ?_
    refine uu_aload_n dX4_isAskedFor_182 rfl (List.mem_of_getElem? (i := 4) rfl) ?_
    refine uu_geti (ci := 3) (N := 15) fX4_227 (by decide) hk1.is (by decide) (by decide) dX4_isAskedFor_183 ?_
    refine uu_if_lt (tgt := 211) dX4_isAskedFor_186 (by decide) (fun c20 => ?_) (fun c20 => ?_)
    · replace h := uu_pos c20 h
      refine uu_iconst (v := 0) dX4_isAskedFor_211 (by decide) ?_
      have hr := Option.some.inj h
      subst hr
      exact uu_zret (x := bI false) rfl (bI_z _) dX4_isAskedFor_212
    · replace h := uu_neg c20 h
      refine uu_aload_n dX4_isAskedFor_189 rfl (List.mem_of_getElem? (i := 4) rfl) ?_
      refine uu_geti (ci := 3) (N := 15) fX4_227 (by decide) hk1.is (by decide) (by decide) dX4_isAskedFor_190 ?_
      refine uu_iconst (v := 2) dX4_isAskedFor_193 (by decide) ?_
      refine uu_icmp_ne (tgt := 207) dX4_isAskedFor_194 (by decide) (fun c21 => ?_) (fun c21 => ?_)
      · replace h := uu_neg c21 h
        refine uu_iconst (v := 1) dX4_isAskedFor_207 (by decide) ?_
        refine uu_goto (tgt := 212) dX4_isAskedFor_208 (by decide) ?_
        have hr := Option.some.inj h
        subst hr
        exact uu_zret (x := bI true) rfl (bI_z _) dX4_isAskedFor_212
      · replace h := uu_pos c21 h
        refine uu_aload_n dX4_isAskedFor_197 rfl (List.mem_of_getElem? (i := 3) rfl) ?_
        refine uu_sipush (v := 128) dX4_isAskedFor_198 (by decide) ?_
        obtain ⟨v22, e23, h⟩ := uu_ob h
        refine uu_cv (d1 := 0) (k := 6) (ci := 4) (T := TX4) (N := 9) (As := [.int 128]) (st := []) (st' := [.int (bI v22)]) (xc_X4_isLacking uk  e23) so_6.is (by decide) rfl kX4_isLacking lX4_143 sX4_isLacking (by decide) (Nat.le_of_ble_eq_true rfl) dX4_isAskedFor_201 rfl ?_
        refine uu_ifb_ne (tgt := 211) dX4_isAskedFor_204 (by decide) (fun c24 => ?_) (fun c24 => ?_)
        · replace h := uu_pos c24 h
          refine uu_iconst (v := 0) dX4_isAskedFor_211 (by decide) ?_
          have hr := Option.some.inj h
          subst hr
          exact uu_zret (x := bI false) rfl (bI_z _) dX4_isAskedFor_212
        · replace h := uu_neg c24 h
          refine uu_iconst (v := 1) dX4_isAskedFor_207 (by decide) ?_
          refine uu_goto (tgt := 212) dX4_isAskedFor_208 (by decide) ?_
          have hr := Option.some.inj h
          subst hr
          exact uu_zret (x := bI true) rfl (bI_z _) dX4_isAskedFor_212
  replace h := uu_neg c28_8 h
  by_cases c28_9 : x2 = 11
  · replace h := uu_pos c28_9 h
    refine uu_tabE (tgt := 84) (off := 56) (v := 11) dX4_isAskedFor_28 c28_9 (by decide) (by decide) rfl (by decide) ?_
    obtain ⟨cq25, cp25, cv25, cw25⟩ := uk.2.1 41 _ rfl
    refine uu_ldcS cv25 dX4_isAskedFor_84 ?_
    refine uu_aload dX4_isAskedFor_86 (List.mem_of_getElem? (i := 2) rfl) ?_
    refine uu_getc (ci := 9) (N := 6) fX4_212 (by decide) so_8.is (by decide) (c := 1) (by decide) (k2 := 9) rfl dX4_isAskedFor_88 ?_
    refine uu_iload dX4_isAskedFor_91 (List.mem_of_getElem? (i := 1) rfl) ?_
    refine uu_iload dX4_isAskedFor_93 (List.mem_of_getElem? (i := 0) rfl) ?_
    obtain ⟨v26, e27, h⟩ := uu_ob h
    refine uu_cs (d1 := 4) (As := [.ref cq25, .ref (B + 9), .int v1, .int v3]) (st := []) (st' := [.int v26]) (xc_X9_place uk cw25 e27) kX9_place lX4_216 sX9_place (by decide) (Nat.le_of_ble_eq_true rfl) dX4_isAskedFor_95 rfl ?_
    refine uu_istore dX4_isAskedFor_98 (by decide) rfl ?_
    refine uu_aload_n dX4_isAskedFor_100 rfl (List.mem_of_getElem? (i := 4) rfl) ?_
    refine uu_dup dX4_isAskedFor_101 rfl ?_
    refine uu_geti (ci := 4) (N := 9) fX4_106 (by decide) so_6.is (by decide) (by decide) dX4_isAskedFor_102 ?_
    refine uu_iload dX4_isAskedFor_105 (List.mem_of_getElem? (i := 0) rfl) ?_
    refine uu_if_ge (tgt := 114) dX4_isAskedFor_107 (by decide) (fun c28 => ?_) (fun c28 => ?_)
    · replace h := uu_pos c28 h
      refine uu_iconst (v := 1) dX4_isAskedFor_114 (by decide) ?_
      refine uu_iload dX4_isAskedFor_115 (List.mem_of_getElem? (i := 0) rfl) ?_
      refine uu_ishl dX4_isAskedFor_117 ?_
      refine uu_lv [0] (lv' := [(7, .int v26)]) rfl ?_
      exact xb_X4_isAskedFor_118 uk un  h
    · replace h := uu_neg c28 h
      refine uu_iconst (v := 0) dX4_isAskedFor_110 (by decide) ?_
      refine uu_goto (tgt := 118) dX4_isAskedFor_111 (by decide) ?_
      refine uu_lv [0] (lv' := [(7, .int v26)]) rfl ?_
      exact xb_X4_isAskedFor_118 uk un  h
  replace h := uu_neg c28_9 h
  have cx28 : (x2).toInt < 2 ∨ 11 < (x2).toInt := by
    refine Decidable.byContradiction fun q => ?_
    rcases (show (x2).toInt = 2 ∨ (x2).toInt = 3 ∨ (x2).toInt = 4 ∨ (x2).toInt = 5 ∨ (x2).toInt = 6 ∨ (x2).toInt = 7 ∨ (x2).toInt = 8 ∨ (x2).toInt = 9 ∨ (x2).toInt = 10 ∨ (x2).toInt = 11 by omega) with q | q | q | q | q | q | q | q | q | q
    · exact c28_0 (sw_eq q (by decide))
    · exact c28_1 (sw_eq q (by decide))
    · exact c28_2 (sw_eq q (by decide))
    · exact c28_3 (sw_eq q (by decide))
    · exact c28_4 (sw_eq q (by decide))
    · exact c28_5 (sw_eq q (by decide))
    · exact c28_6 (sw_eq q (by decide))
    · exact c28_7 (sw_eq q (by decide))
    · exact c28_8 (sw_eq q (by decide))
    · exact c28_9 (sw_eq q (by decide))
  refine uu_tableOut (tgt := 273) dX4_isAskedFor_28 cx28 (by decide) ?_
  refine uu_iconst (v := 1) dX4_isAskedFor_273 (by decide) ?_
  have hr := Option.some.inj h
  subst hr
  exact uu_zret (x := bI true) rfl (bI_z _) dX4_isAskedFor_274
abbrev mX4_takeString : hM := (yX4_takeString, cX4_takeString, 5, (some (.int)))
theorem dX4_takeString_94 : decode cX4_takeString 94 = .ok (.aload_n 2, 1) := by decide +kernel
theorem dX4_takeString_95 : decode cX4_takeString 95 = .ok (.getfield 132, 3) := by decide +kernel
theorem dX4_takeString_98 : decode cX4_takeString 98 = .ok (.iload_n 3, 1) := by decide +kernel
theorem dX4_takeString_99 : decode cX4_takeString 99 = .ok (.dup2, 1) := by decide +kernel
theorem dX4_takeString_100 : decode cX4_takeString 100 = .ok (.iaload, 1) := by decide +kernel
theorem dX4_takeString_101 : decode cX4_takeString 101 = .ok (.iconst 1, 1) := by decide +kernel
theorem dX4_takeString_102 : decode cX4_takeString 102 = .ok (.iadd, 1) := by decide +kernel
theorem dX4_takeString_103 : decode cX4_takeString 103 = .ok (.iastore, 1) := by decide +kernel
theorem dX4_takeString_104 : decode cX4_takeString 104 = .ok (.aload_n 0, 1) := by decide +kernel
theorem dX4_takeString_105 : decode cX4_takeString 105 = .ok (.iconst 1, 1) := by decide +kernel
theorem dX4_takeString_106 : decode cX4_takeString 106 = .ok (.invokevirtual 84, 3) := by decide +kernel
theorem dX4_takeString_109 : decode cX4_takeString 109 = .ok (.ireturn, 1) := by decide +kernel
theorem dX4_takeString_0 : decode cX4_takeString 0 = .ok (.aload_n 0, 1) := by decide +kernel
theorem dX4_takeString_1 : decode cX4_takeString 1 = .ok (.getfield 18, 3) := by decide +kernel
theorem dX4_takeString_4 : decode cX4_takeString 4 = .ok (.iload_n 1, 1) := by decide +kernel
theorem dX4_takeString_5 : decode cX4_takeString 5 = .ok (.bipush 12, 2) := by decide +kernel
theorem dX4_takeString_7 : decode cX4_takeString 7 = .ok (.idiv, 1) := by decide +kernel
theorem dX4_takeString_8 : decode cX4_takeString 8 = .ok (.aaload, 1) := by decide +kernel
theorem dX4_takeString_9 : decode cX4_takeString 9 = .ok (.astore_n 2, 1) := by decide +kernel
theorem dX4_takeString_10 : decode cX4_takeString 10 = .ok (.iload_n 1, 1) := by decide +kernel
theorem dX4_takeString_11 : decode cX4_takeString 11 = .ok (.bipush 12, 2) := by decide +kernel
theorem dX4_takeString_13 : decode cX4_takeString 13 = .ok (.irem, 1) := by decide +kernel
theorem dX4_takeString_14 : decode cX4_takeString 14 = .ok (.istore_n 3, 1) := by decide +kernel
theorem dX4_takeString_15 : decode cX4_takeString 15 = .ok (.aload_n 0, 1) := by decide +kernel
theorem dX4_takeString_16 : decode cX4_takeString 16 = .ok (.getfield 10, 3) := by decide +kernel
theorem dX4_takeString_19 : decode cX4_takeString 19 = .ok (.getfield 188, 3) := by decide +kernel
theorem fX4_192 : h_fl RX4 192 9 3 RX9 TX9 6 := ⟨rfl, by decide, inX9, h_t1 86 rfl rfl⟩
theorem dX4_takeString_22 : decode cX4_takeString 22 = .ok (.getfield 192, 3) := by decide +kernel
theorem dX4_takeString_25 : decode cX4_takeString 25 = .ok (.iconst 1, 1) := by decide +kernel
theorem dX4_takeString_26 : decode cX4_takeString 26 = .ok (.isub, 1) := by decide +kernel
theorem dX4_takeString_27 : decode cX4_takeString 27 = .ok (.istore 4, 2) := by decide +kernel
theorem dX4_takeString_29 : decode cX4_takeString 29 = .ok (.aload_n 0, 1) := by decide +kernel
theorem dX4_takeString_30 : decode cX4_takeString 30 = .ok (.getfield 10, 3) := by decide +kernel
theorem dX4_takeString_33 : decode cX4_takeString 33 = .ok (.getfield 37, 3) := by decide +kernel
theorem dX4_takeString_36 : decode cX4_takeString 36 = .ok (.iconst 3, 1) := by decide +kernel
theorem dX4_takeString_37 : decode cX4_takeString 37 = .ok (.if_icmp .ne 38, 3) := by decide +kernel
theorem dX4_takeString_75 : decode cX4_takeString 75 = .ok (.iconst 0, 1) := by decide +kernel
theorem dX4_takeString_76 : decode cX4_takeString 76 = .ok (.ireturn, 1) := by decide +kernel
theorem dX4_takeString_40 : decode cX4_takeString 40 = .ok (.iload 4, 2) := by decide +kernel
theorem dX4_takeString_42 : decode cX4_takeString 42 = .ok (.ifCond .lt 33, 3) := by decide +kernel
theorem dX4_takeString_45 : decode cX4_takeString 45 = .ok (.iload 4, 2) := by decide +kernel
theorem dX4_takeString_47 : decode cX4_takeString 47 = .ok (.sipush 300, 3) := by decide +kernel
theorem dX4_takeString_50 : decode cX4_takeString 50 = .ok (.if_icmp .ge 25, 3) := by decide +kernel
theorem dX4_takeString_53 : decode cX4_takeString 53 = .ok (.aload_n 2, 1) := by decide +kernel
theorem dX4_takeString_54 : decode cX4_takeString 54 = .ok (.getfield 132, 3) := by decide +kernel
theorem dX4_takeString_57 : decode cX4_takeString 57 = .ok (.iload_n 3, 1) := by decide +kernel
theorem dX4_takeString_58 : decode cX4_takeString 58 = .ok (.iaload, 1) := by decide +kernel
theorem dX4_takeString_59 : decode cX4_takeString 59 = .ok (.bipush 10, 2) := by decide +kernel
theorem dX4_takeString_61 : decode cX4_takeString 61 = .ok (.if_icmp .eq 14, 3) := by decide +kernel
theorem dX4_takeString_64 : decode cX4_takeString 64 = .ok (.aload_n 0, 1) := by decide +kernel
theorem dX4_takeString_65 : decode cX4_takeString 65 = .ok (.aload_n 2, 1) := by decide +kernel
theorem dX4_takeString_66 : decode cX4_takeString 66 = .ok (.iload_n 3, 1) := by decide +kernel
theorem dX4_takeString_67 : decode cX4_takeString 67 = .ok (.iload 4, 2) := by decide +kernel
theorem kX4_isAskedFor : h_ml mX4_isAskedFor 3 := ⟨h_t5 107 rfl rfl, h_t1 2 rfl rfl, ⟨by decide, by decide, by decide +kernel⟩, by decide⟩
theorem lX4_197 : Cond.methodLink RX4 197 mX4_isAskedFor.1 ∈ lw_g := h_t5 104 rfl rfl
theorem sX4_isAskedFor : Cond.instanceMethod mX4_isAskedFor.1 ∈ lw_g ∧ Cond.selects mX4_isAskedFor.1.cls mX4_isAskedFor.1 mX4_isAskedFor.1 ∈ lw_g := ⟨h_t5 106 rfl rfl, h_ins 44 rfl⟩
theorem dX4_takeString_69 : decode cX4_takeString 69 = .ok (.invokevirtual 197, 3) := by decide +kernel
theorem dX4_takeString_72 : decode cX4_takeString 72 = .ok (.ifCond .ne 5, 3) := by decide +kernel
theorem dX4_takeString_77 : decode cX4_takeString 77 = .ok (.aload_n 2, 1) := by decide +kernel
theorem dX4_takeString_78 : decode cX4_takeString 78 = .ok (.getfield 132, 3) := by decide +kernel
theorem dX4_takeString_81 : decode cX4_takeString 81 = .ok (.iload_n 3, 1) := by decide +kernel
theorem dX4_takeString_82 : decode cX4_takeString 82 = .ok (.iaload, 1) := by decide +kernel
theorem dX4_takeString_83 : decode cX4_takeString 83 = .ok (.ifCond .ne 11, 3) := by decide +kernel
theorem dX4_takeString_86 : decode cX4_takeString 86 = .ok (.aload_n 2, 1) := by decide +kernel
theorem fX4_201 : h_fl RX4 201 3 13 RX3 TX3 15 := ⟨rfl, by decide, inX3, h_t1 187 rfl rfl⟩
theorem dX4_takeString_87 : decode cX4_takeString 87 = .ok (.getfield 201, 3) := by decide +kernel
theorem dX4_takeString_90 : decode cX4_takeString 90 = .ok (.iload_n 3, 1) := by decide +kernel
theorem dX4_takeString_91 : decode cX4_takeString 91 = .ok (.iload 4, 2) := by decide +kernel
theorem dX4_takeString_93 : decode cX4_takeString 93 = .ok (.iastore, 1) := by decide +kernel
def fb_X4_takeString_94  (k2 : Nat) (x3 : Int32) (s : uS) : Option (uS × Int32) := (iget 20 s (k2 + 2) x3).bind fun v1 => (iput 20 s (k2 + 2) x3 (v1 + 1)).bind fun s3 => (fn_X4_pop 1 s3).bind fun r5 => some (r5.1, r5.2)
set_option maxRecDepth 100000 in
set_option maxHeartbeats 4000000 in
theorem xb_X4_takeString_94 {l : Launch} {D : va_G} {A : Nat → ClassId} {B : Nat} {Z : State → Heap → Prop} {vF : Value} (uk : uK B Z vF) (un : uX A B Z)   {k2 : Nat} {x3 : Int32} {s : uS} {r : (uS × Int32)} (hk2 : uSo k2 3) (h : fb_X4_takeString_94  k2 x3 s = some r) : GU l D A B Z mX4_takeString 7 (r.1, some (.int r.2)) s 94 [(0, .ref (B + 6)), (2, .ref (B + k2)), (3, .int x3)] [] := by
  unfold fb_X4_takeString_94 at h
  refine uu_aload_n dX4_takeString_94 rfl (List.mem_of_getElem? (i := 1) rfl) ?_
  refine uu_getc (ci := 3) (N := 15) fX4_132 (by decide) hk2.is (by decide) (c := 2) (by decide) (k2 := k2 + 2) rfl dX4_takeString_95 ?_
  refine uu_iload_n dX4_takeString_98 rfl (List.mem_of_getElem? (i := 2) rfl) ?_
  refine uu_dup2_11 dX4_takeString_99 rfl rfl ?_
  obtain ⟨v1, e2, h⟩ := uu_ob h
  refine uu_iald e2 dX4_takeString_100 ?_
  refine uu_iconst (v := 1) dX4_takeString_101 (by decide) ?_
  refine uu_iadd dX4_takeString_102 ?_
  obtain ⟨s3, e4, h⟩ := uu_ob h
  refine uu_iast e4 dX4_takeString_103 ?_
  refine uu_aload_n dX4_takeString_104 rfl (List.mem_of_getElem? (i := 0) rfl) ?_
  refine uu_iconst (v := 1) dX4_takeString_105 (by decide) ?_
  obtain ⟨r5, e6, h⟩ := uu_ob h
  refine uu_cv (d1 := 0) (k := 6) (ci := 4) (T := TX4) (N := 9) (As := [.int 1]) (st := []) (st' := [.int r5.2]) (xc_X4_pop uk  e6) so_6.is (by decide) rfl kX4_pop lX4_84 sX4_pop (by decide) (Nat.le_of_ble_eq_true rfl) dX4_takeString_106 rfl ?_
  have hr := Option.some.inj h
  subst hr
  exact uu_iret rfl dX4_takeString_109
def fn_X4_takeString (x1 : Int32) (s : uS) : Option (uS × Int32) := (pgt 28 s 13 (x1 / 12)).bind fun j1 => if uSo j1 3 then (if (s.I 7 2) = 3 then (if ((s.I 8 3) - 1) < 0 then (some (s, (0 : Int32))) else (if (300 : Int32) ≤ ((s.I 8 3) - 1) then (some (s, (0 : Int32))) else ((iget 20 s (j1 + 2) (x1 - x1 / 12 * 12)).bind fun v7 => if v7 = 10 then (some (s, (0 : Int32))) else ((fn_X4_isAskedFor j1 (x1 - x1 / 12 * 12) ((s.I 8 3) - 1) s).bind fun r10 => if r10.2 = true then ((iget 20 r10.1 (j1 + 2) (x1 - x1 / 12 * 12)).bind fun v13 => if v13 = 0 then ((iput 20 r10.1 (j1 + 1) (x1 - x1 / 12 * 12) ((s.I 8 3) - 1)).bind fun s16 => fb_X4_takeString_94 j1 (x1 - x1 / 12 * 12) s16) else (fb_X4_takeString_94 j1 (x1 - x1 / 12 * 12) r10.1)) else (some (r10.1, (0 : Int32))))))) else (some (s, (0 : Int32)))) else none
set_option maxRecDepth 100000 in
set_option maxHeartbeats 4000000 in
theorem xc_X4_takeString {l : Launch} {D : va_G} {A : Nat → ClassId} {B : Nat} {Z : State → Heap → Prop} {vF : Value} (uk : uK B Z vF) (un : uX A B Z) {x1 : Int32} {s : uS} {r : (uS × Int32)}  (h : fn_X4_takeString x1 s = some r) : CU l D A B Z 7 mX4_takeString s [.ref (B + 6), .int x1] (r.1, some (.int r.2)) := by
  unfold fn_X4_takeString at h
  refine cu_of rfl uk.1.1 (Nat.le_of_ble_eq_true rfl) ?_
  show GU _ _ _ _ _ _ _ _ _ 0 [(0, .ref (B + 6)), (1, .int x1)] []
  refine uu_aload_n dX4_takeString_0 rfl (List.mem_of_getElem? (i := 0) rfl) ?_
  refine uu_geta (ci := 4) (N := 9) fX4_18 (by decide) so_6.is (by decide) (c := 13) (by decide) dX4_takeString_1 ?_
  refine uu_iload_n dX4_takeString_4 rfl (List.mem_of_getElem? (i := 1) rfl) ?_
  refine uu_bipush (v := 12) dX4_takeString_5 (by decide) ?_
  refine uu_idiv dX4_takeString_7 (by decide) ?_
  obtain ⟨j1, e2, h⟩ := uu_ob h
  refine uu_aald (t := 28) rfl (by decide) e2 dX4_takeString_8 ?_
  obtain ⟨g3, h⟩ := uu_grd h
  refine uu_astore_n dX4_takeString_9 rfl (by decide) rfl ?_
  refine uu_iload_n dX4_takeString_10 rfl (List.mem_of_getElem? (i := 2) rfl) ?_
  refine uu_bipush (v := 12) dX4_takeString_11 (by decide) ?_
  refine uu_irem dX4_takeString_13 (by decide) ?_
  refine uu_istore_n dX4_takeString_14 rfl (by decide) rfl ?_
  refine uu_aload_n dX4_takeString_15 rfl (List.mem_of_getElem? (i := 2) rfl) ?_
  refine uu_geta (ci := 4) (N := 9) fX4_10 (by decide) so_6.is (by decide) (c := 7) (by decide) dX4_takeString_16 ?_
  refine uu_geta (ci := 2) (N := 9) fX4_188 (by decide) so_7.is (by decide) (c := 8) (by decide) dX4_takeString_19 ?_
  refine uu_geti (ci := 9) (N := 6) fX4_192 (by decide) so_8.is (by decide) (by decide) dX4_takeString_22 ?_
  refine uu_iconst (v := 1) dX4_takeString_25 (by decide) ?_
  refine uu_isub dX4_takeString_26 ?_
  refine uu_istore dX4_takeString_27 (by decide) rfl ?_
  refine uu_aload_n dX4_takeString_29 rfl (List.mem_of_getElem? (i := 3) rfl) ?_
  refine uu_geta (ci := 4) (N := 9) fX4_10 (by decide) so_6.is (by decide) (c := 7) (by decide) dX4_takeString_30 ?_
  refine uu_geti (ci := 2) (N := 9) fX4_37 (by decide) so_7.is (by decide) (by decide) dX4_takeString_33 ?_
  refine uu_iconst (v := 3) dX4_takeString_36 (by decide) ?_
  refine uu_icmp_ne (tgt := 75) dX4_takeString_37 (by decide) (fun c4 => ?_) (fun c4 => ?_)
  · replace h := uu_neg c4 h
    refine uu_iconst (v := 0) dX4_takeString_75 (by decide) ?_
    have hr := Option.some.inj h
    subst hr
    exact uu_iret rfl dX4_takeString_76
  · replace h := uu_pos c4 h
    refine uu_iload dX4_takeString_40 (List.mem_of_getElem? (i := 0) rfl) ?_
    refine uu_if_lt (tgt := 75) dX4_takeString_42 (by decide) (fun c5 => ?_) (fun c5 => ?_)
    · replace h := uu_pos c5 h
      refine uu_iconst (v := 0) dX4_takeString_75 (by decide) ?_
      have hr := Option.some.inj h
      subst hr
      exact uu_iret rfl dX4_takeString_76
    · replace h := uu_neg c5 h
      refine uu_iload dX4_takeString_45 (List.mem_of_getElem? (i := 0) rfl) ?_
      refine uu_sipush (v := 300) dX4_takeString_47 (by decide) ?_
      refine uu_icmp_ge (tgt := 75) dX4_takeString_50 (by decide) (fun c6 => ?_) (fun c6 => ?_)
      · replace h := uu_pos c6 h
        refine uu_iconst (v := 0) dX4_takeString_75 (by decide) ?_
        have hr := Option.some.inj h
        subst hr
        exact uu_iret rfl dX4_takeString_76
      · replace h := uu_neg c6 h
        refine uu_aload_n dX4_takeString_53 rfl (List.mem_of_getElem? (i := 2) rfl) ?_
        refine uu_getc (ci := 3) (N := 15) fX4_132 (by decide) g3.is (by decide) (c := 2) (by decide) (k2 := j1 + 2) rfl dX4_takeString_54 ?_
        refine uu_iload_n dX4_takeString_57 rfl (List.mem_of_getElem? (i := 1) rfl) ?_
        obtain ⟨v7, e8, h⟩ := uu_ob h
        refine uu_iald e8 dX4_takeString_58 ?_
        refine uu_bipush (v := 10) dX4_takeString_59 (by decide) ?_
        refine uu_icmp_eq (tgt := 75) dX4_takeString_61 (by decide) (fun c9 => ?_) (fun c9 => ?_)
        · replace h := uu_pos c9 h
          refine uu_iconst (v := 0) dX4_takeString_75 (by decide) ?_
          have hr := Option.some.inj h
          subst hr
          exact uu_iret rfl dX4_takeString_76
        · replace h := uu_neg c9 h
          refine uu_aload_n dX4_takeString_64 rfl (List.mem_of_getElem? (i := 3) rfl) ?_
          refine uu_aload_n dX4_takeString_65 rfl (List.mem_of_getElem? (i := 2) rfl) ?_
          refine uu_iload_n dX4_takeString_66 rfl (List.mem_of_getElem? (i := 1) rfl) ?_
          refine uu_iload dX4_takeString_67 (List.mem_of_getElem? (i := 0) rfl) ?_
          obtain ⟨r10, e11, h⟩ := uu_ob h
          refine uu_cv (d1 := 6) (k := 6) (ci := 4) (T := TX4) (N := 9) (As := [.ref (B + j1), .int (x1 - x1 / 12 * 12), .int ((s.I 8 3) - 1)]) (st := []) (st' := [.int (bI r10.2)]) (xc_X4_isAskedFor uk un g3 e11) so_6.is (by decide) rfl kX4_isAskedFor lX4_197 sX4_isAskedFor (by decide) (Nat.le_of_ble_eq_true rfl) dX4_takeString_69 rfl ?_
          refine uu_ifb_ne (tgt := 77) dX4_takeString_72 (by decide) (fun c12 => ?_) (fun c12 => ?_)
          · replace h := uu_pos c12 h
            refine uu_aload_n dX4_takeString_77 rfl (List.mem_of_getElem? (i := 2) rfl) ?_
            refine uu_getc (ci := 3) (N := 15) fX4_132 (by decide) g3.is (by decide) (c := 2) (by decide) (k2 := j1 + 2) rfl dX4_takeString_78 ?_
            refine uu_iload_n dX4_takeString_81 rfl (List.mem_of_getElem? (i := 1) rfl) ?_
            obtain ⟨v13, e14, h⟩ := uu_ob h
            refine uu_iald e14 dX4_takeString_82 ?_
            refine uu_if_ne (tgt := 94) dX4_takeString_83 (by decide) (fun c15 => ?_) (fun c15 => ?_)
            · replace h := uu_neg c15 h
              refine uu_lv [3, 2, 1] (lv' := [(0, .ref (B + 6)), (2, .ref (B + j1)), (3, .int (x1 - x1 / 12 * 12))]) rfl ?_
              exact xb_X4_takeString_94 uk un g3 h
            · replace h := uu_pos c15 h
              refine uu_aload_n dX4_takeString_86 rfl (List.mem_of_getElem? (i := 2) rfl) ?_
              refine uu_getc (ci := 3) (N := 15) fX4_201 (by decide) g3.is (by decide) (c := 1) (by decide) (k2 := j1 + 1) rfl dX4_takeString_87 ?_
              refine uu_iload_n dX4_takeString_90 rfl (List.mem_of_getElem? (i := 1) rfl) ?_
              refine uu_iload dX4_takeString_91 (List.mem_of_getElem? (i := 0) rfl) ?_
              obtain ⟨s16, e17, h⟩ := uu_ob h
              refine uu_iast e17 dX4_takeString_93 ?_
              refine uu_lv [3, 2, 1] (lv' := [(0, .ref (B + 6)), (2, .ref (B + j1)), (3, .int (x1 - x1 / 12 * 12))]) rfl ?_
              exact xb_X4_takeString_94 uk un g3 h
          · replace h := uu_neg c12 h
            refine uu_iconst (v := 0) dX4_takeString_75 (by decide) ?_
            have hr := Option.some.inj h
            subst hr
            exact uu_iret rfl dX4_takeString_76
abbrev mX4_parse : hM := (yX4_parse, cX4_parse, 7, (some (.int)))
theorem dX4_parse_425 : decode cX4_parse 425 = .ok (.iload 4, 2) := by decide +kernel
theorem dX4_parse_427 : decode cX4_parse 427 = .ok (.iconst 3, 1) := by decide +kernel
theorem dX4_parse_428 : decode cX4_parse 428 = .ok (.if_icmp .ne 7, 3) := by decide +kernel
theorem dX4_parse_435 : decode cX4_parse 435 = .ok (.aload_n 0, 1) := by decide +kernel
theorem dX4_parse_436 : decode cX4_parse 436 = .ok (.getfield 10, 3) := by decide +kernel
theorem kX2_line : h_ml mX2_line 0 := ⟨h_t5 18 rfl rfl, h_t1 3 rfl rfl, ⟨by decide, by decide, by decide +kernel⟩, by decide⟩
theorem lX4_47 : Cond.methodLink RX4 47 mX2_line.1 ∈ lw_g := h_t5 15 rfl rfl
theorem sX2_line : Cond.instanceMethod mX2_line.1 ∈ lw_g ∧ Cond.selects mX2_line.1.cls mX2_line.1 mX2_line.1 ∈ lw_g := ⟨h_t5 16 rfl rfl, h_t5 17 rfl rfl⟩
theorem dX4_parse_439 : decode cX4_parse 439 = .ok (.invokevirtual 47, 3) := by decide +kernel
theorem dX4_parse_442 : decode cX4_parse 442 = .ok (.ireturn, 1) := by decide +kernel
theorem dX4_parse_431 : decode cX4_parse 431 = .ok (.iconst 0, 1) := by decide +kernel
theorem dX4_parse_432 : decode cX4_parse 432 = .ok (.goto 10, 3) := by decide +kernel
theorem dX4_parse_84 : decode cX4_parse 84 = .ok (.aload_n 0, 1) := by decide +kernel
theorem dX4_parse_85 : decode cX4_parse 85 = .ok (.getfield 10, 3) := by decide +kernel
theorem dX4_parse_88 : decode cX4_parse 88 = .ok (.invokevirtual 47, 3) := by decide +kernel
theorem dX4_parse_91 : decode cX4_parse 91 = .ok (.ireturn, 1) := by decide +kernel
theorem dX4_parse_46 : decode cX4_parse 46 = .ok (.aload_n 0, 1) := by decide +kernel
theorem dX4_parse_47 : decode cX4_parse 47 = .ok (.getfield 10, 3) := by decide +kernel
theorem dX4_parse_50 : decode cX4_parse 50 = .ok (.getfield 37, 3) := by decide +kernel
theorem dX4_parse_53 : decode cX4_parse 53 = .ok (.bipush 6, 2) := by decide +kernel
theorem dX4_parse_55 : decode cX4_parse 55 = .ok (.if_icmp .eq 29, 3) := by decide +kernel
theorem dX4_parse_58 : decode cX4_parse 58 = .ok (.aload_n 0, 1) := by decide +kernel
theorem dX4_parse_59 : decode cX4_parse 59 = .ok (.getfield 41, 3) := by decide +kernel
theorem dX4_parse_62 : decode cX4_parse 62 = .ok (.ifCond .eq 22, 3) := by decide +kernel
theorem dX4_parse_65 : decode cX4_parse 65 = .ok (.aload_n 0, 1) := by decide +kernel
theorem dX4_parse_66 : decode cX4_parse 66 = .ok (.getfield 41, 3) := by decide +kernel
theorem dX4_parse_69 : decode cX4_parse 69 = .ok (.bipush 116, 2) := by decide +kernel
theorem dX4_parse_71 : decode cX4_parse 71 = .ok (.if_icmp .gt 13, 3) := by decide +kernel
theorem dX4_parse_74 : decode cX4_parse 74 = .ok (.aload_n 0, 1) := by decide +kernel
theorem dX4_parse_75 : decode cX4_parse 75 = .ok (.getfield 44, 3) := by decide +kernel
theorem dX4_parse_78 : decode cX4_parse 78 = .ok (.sipush 320, 3) := by decide +kernel
theorem dX4_parse_81 : decode cX4_parse 81 = .ok (.if_icmp .lt 11, 3) := by decide +kernel
theorem dX4_parse_92 : decode cX4_parse 92 = .ok (.aload_n 0, 1) := by decide +kernel
theorem dX4_parse_93 : decode cX4_parse 93 = .ok (.getfield 26, 3) := by decide +kernel
theorem dX4_parse_96 : decode cX4_parse 96 = .ok (.aload_n 0, 1) := by decide +kernel
theorem dX4_parse_97 : decode cX4_parse 97 = .ok (.getfield 41, 3) := by decide +kernel
theorem dX4_parse_100 : decode cX4_parse 100 = .ok (.iconst 1, 1) := by decide +kernel
theorem dX4_parse_101 : decode cX4_parse 101 = .ok (.isub, 1) := by decide +kernel
theorem dX4_parse_102 : decode cX4_parse 102 = .ok (.iaload, 1) := by decide +kernel
theorem dX4_parse_103 : decode cX4_parse 103 = .ok (.istore 6, 2) := by decide +kernel
theorem dX4_parse_105 : decode cX4_parse 105 = .ok (.aload_n 0, 1) := by decide +kernel
theorem dX4_parse_106 : decode cX4_parse 106 = .ok (.getfield 22, 3) := by decide +kernel
theorem dX4_parse_109 : decode cX4_parse 109 = .ok (.aload_n 0, 1) := by decide +kernel
theorem dX4_parse_110 : decode cX4_parse 110 = .ok (.getfield 41, 3) := by decide +kernel
theorem dX4_parse_113 : decode cX4_parse 113 = .ok (.iconst 1, 1) := by decide +kernel
theorem dX4_parse_114 : decode cX4_parse 114 = .ok (.isub, 1) := by decide +kernel
theorem dX4_parse_115 : decode cX4_parse 115 = .ok (.iaload, 1) := by decide +kernel
theorem dX4_parse_116 : decode cX4_parse 116 = .ok (.tableswitch 280 0 12 #[68, 77, 101, 112, 142, 151, 162, 173, 185, 215, 226, 237, 269], 68) := by decide +kernel
theorem dX4_parse_184 : decode cX4_parse 184 = .ok (.aload_n 0, 1) := by decide +kernel
theorem kX4_require : h_ml mX4_require 0 := ⟨h_t5 22 rfl rfl, h_t1 2 rfl rfl, ⟨by decide, by decide, by decide +kernel⟩, by decide⟩
theorem lX4_51 : Cond.methodLink RX4 51 mX4_require.1 ∈ lw_g := h_t5 19 rfl rfl
theorem sX4_require : Cond.instanceMethod mX4_require.1 ∈ lw_g ∧ Cond.selects mX4_require.1.cls mX4_require.1 mX4_require.1 ∈ lw_g := ⟨h_t5 21 rfl rfl, h_ins 29 rfl⟩
theorem dX4_parse_185 : decode cX4_parse 185 = .ok (.invokevirtual 51, 3) := by decide +kernel
theorem dX4_parse_188 : decode cX4_parse 188 = .ok (.istore 4, 2) := by decide +kernel
theorem dX4_parse_190 : decode cX4_parse 190 = .ok (.goto 229, 3) := by decide +kernel
theorem dX4_parse_419 : decode cX4_parse 419 = .ok (.iinc 5 1, 3) := by decide +kernel
theorem dX4_parse_422 : decode cX4_parse 422 = .ok (.goto (-409), 3) := by decide +kernel
theorem dX4_parse_193 : decode cX4_parse 193 = .ok (.aload_n 0, 1) := by decide +kernel
theorem dX4_parse_194 : decode cX4_parse 194 = .ok (.getfield 10, 3) := by decide +kernel
theorem dX4_parse_197 : decode cX4_parse 197 = .ok (.getfield 37, 3) := by decide +kernel
theorem dX4_parse_200 : decode cX4_parse 200 = .ok (.iconst 5, 1) := by decide +kernel
theorem dX4_parse_201 : decode cX4_parse 201 = .ok (.if_icmp .ne 7, 3) := by decide +kernel
theorem dX4_parse_208 : decode cX4_parse 208 = .ok (.aload_n 0, 1) := by decide +kernel
theorem kX4_startCommand : h_ml mX4_startCommand 0 := ⟨h_t5 35 rfl rfl, h_t1 2 rfl rfl, ⟨by decide, by decide, by decide +kernel⟩, by decide⟩
theorem lX4_54 : Cond.methodLink RX4 54 mX4_startCommand.1 ∈ lw_g := h_t5 32 rfl rfl
theorem sX4_startCommand : Cond.instanceMethod mX4_startCommand.1 ∈ lw_g ∧ Cond.selects mX4_startCommand.1.cls mX4_startCommand.1 mX4_startCommand.1 ∈ lw_g := ⟨h_t5 34 rfl rfl, h_ins 31 rfl⟩
theorem dX4_parse_209 : decode cX4_parse 209 = .ok (.invokevirtual 54, 3) := by decide +kernel
theorem dX4_parse_212 : decode cX4_parse 212 = .ok (.istore 4, 2) := by decide +kernel
theorem dX4_parse_214 : decode cX4_parse 214 = .ok (.goto 205, 3) := by decide +kernel
theorem dX4_parse_204 : decode cX4_parse 204 = .ok (.iconst 3, 1) := by decide +kernel
theorem dX4_parse_205 : decode cX4_parse 205 = .ok (.goto 7, 3) := by decide +kernel
theorem dX4_parse_217 : decode cX4_parse 217 = .ok (.aload_n 0, 1) := by decide +kernel
theorem dX4_parse_218 : decode cX4_parse 218 = .ok (.iload 6, 2) := by decide +kernel
theorem kX4_openBlock : h_ml mX4_openBlock 1 := ⟨h_t5 48 rfl rfl, h_t1 2 rfl rfl, ⟨by decide, by decide, by decide +kernel⟩, by decide⟩
theorem lX4_57 : Cond.methodLink RX4 57 mX4_openBlock.1 ∈ lw_g := h_t5 45 rfl rfl
theorem sX4_openBlock : Cond.instanceMethod mX4_openBlock.1 ∈ lw_g ∧ Cond.selects mX4_openBlock.1.cls mX4_openBlock.1 mX4_openBlock.1 ∈ lw_g := ⟨h_t5 47 rfl rfl, h_ins 33 rfl⟩
theorem dX4_parse_220 : decode cX4_parse 220 = .ok (.invokevirtual 57, 3) := by decide +kernel
theorem dX4_parse_223 : decode cX4_parse 223 = .ok (.istore 4, 2) := by decide +kernel
theorem dX4_parse_225 : decode cX4_parse 225 = .ok (.goto 194, 3) := by decide +kernel
theorem dX4_parse_228 : decode cX4_parse 228 = .ok (.aload_n 0, 1) := by decide +kernel
theorem dX4_parse_229 : decode cX4_parse 229 = .ok (.getfield 10, 3) := by decide +kernel
theorem dX4_parse_232 : decode cX4_parse 232 = .ok (.bipush 125, 2) := by decide +kernel
theorem dX4_parse_234 : decode cX4_parse 234 = .ok (.invokevirtual 61, 3) := by decide +kernel
theorem dX4_parse_237 : decode cX4_parse 237 = .ok (.ifCond .eq 12, 3) := by decide +kernel
theorem dX4_parse_249 : decode cX4_parse 249 = .ok (.aload_n 0, 1) := by decide +kernel
theorem dX4_parse_250 : decode cX4_parse 250 = .ok (.invokevirtual 54, 3) := by decide +kernel
theorem dX4_parse_253 : decode cX4_parse 253 = .ok (.istore 4, 2) := by decide +kernel
theorem dX4_parse_255 : decode cX4_parse 255 = .ok (.goto 164, 3) := by decide +kernel
theorem dX4_parse_240 : decode cX4_parse 240 = .ok (.aload_n 0, 1) := by decide +kernel
theorem dX4_parse_241 : decode cX4_parse 241 = .ok (.iload 6, 2) := by decide +kernel
theorem kX4_closeBlock : h_ml mX4_closeBlock 1 := ⟨h_t5 56 rfl rfl, h_t1 2 rfl rfl, ⟨by decide, by decide, by decide +kernel⟩, by decide⟩
theorem lX4_65 : Cond.methodLink RX4 65 mX4_closeBlock.1 ∈ lw_g := h_t5 53 rfl rfl
theorem sX4_closeBlock : Cond.instanceMethod mX4_closeBlock.1 ∈ lw_g ∧ Cond.selects mX4_closeBlock.1.cls mX4_closeBlock.1 mX4_closeBlock.1 ∈ lw_g := ⟨h_t5 55 rfl rfl, h_ins 34 rfl⟩
theorem dX4_parse_243 : decode cX4_parse 243 = .ok (.invokevirtual 65, 3) := by decide +kernel
theorem dX4_parse_246 : decode cX4_parse 246 = .ok (.goto 7, 3) := by decide +kernel
theorem dX4_parse_258 : decode cX4_parse 258 = .ok (.aload_n 0, 1) := by decide +kernel
theorem kX4_startElse : h_ml mX4_startElse 0 := ⟨h_t5 64 rfl rfl, h_t1 2 rfl rfl, ⟨by decide, by decide, by decide +kernel⟩, by decide⟩
theorem lX4_68 : Cond.methodLink RX4 68 mX4_startElse.1 ∈ lw_g := h_t5 61 rfl rfl
theorem sX4_startElse : Cond.instanceMethod mX4_startElse.1 ∈ lw_g ∧ Cond.selects mX4_startElse.1.cls mX4_startElse.1 mX4_startElse.1 ∈ lw_g := ⟨h_t5 63 rfl rfl, h_ins 36 rfl⟩
theorem dX4_parse_259 : decode cX4_parse 259 = .ok (.invokevirtual 68, 3) := by decide +kernel
theorem dX4_parse_262 : decode cX4_parse 262 = .ok (.istore 4, 2) := by decide +kernel
theorem dX4_parse_264 : decode cX4_parse 264 = .ok (.goto 155, 3) := by decide +kernel
theorem dX4_parse_267 : decode cX4_parse 267 = .ok (.aload_n 0, 1) := by decide +kernel
theorem dX4_parse_268 : decode cX4_parse 268 = .ok (.iload 6, 2) := by decide +kernel
theorem kX4_startTest : h_ml mX4_startTest 1 := ⟨h_t5 69 rfl rfl, h_t1 2 rfl rfl, ⟨by decide, by decide, by decide +kernel⟩, by decide⟩
theorem lX4_71 : Cond.methodLink RX4 71 mX4_startTest.1 ∈ lw_g := h_t5 66 rfl rfl
theorem sX4_startTest : Cond.instanceMethod mX4_startTest.1 ∈ lw_g ∧ Cond.selects mX4_startTest.1.cls mX4_startTest.1 mX4_startTest.1 ∈ lw_g := ⟨h_t5 68 rfl rfl, h_ins 37 rfl⟩
theorem dX4_parse_270 : decode cX4_parse 270 = .ok (.invokevirtual 71, 3) := by decide +kernel
theorem dX4_parse_273 : decode cX4_parse 273 = .ok (.istore 4, 2) := by decide +kernel
theorem dX4_parse_275 : decode cX4_parse 275 = .ok (.goto 144, 3) := by decide +kernel
theorem dX4_parse_278 : decode cX4_parse 278 = .ok (.aload_n 0, 1) := by decide +kernel
theorem dX4_parse_279 : decode cX4_parse 279 = .ok (.iload 6, 2) := by decide +kernel
theorem kX4_moreTests : h_ml mX4_moreTests 1 := ⟨h_t5 78 rfl rfl, h_t1 2 rfl rfl, ⟨by decide, by decide, by decide +kernel⟩, by decide⟩
theorem lX4_74 : Cond.methodLink RX4 74 mX4_moreTests.1 ∈ lw_g := h_t5 75 rfl rfl
theorem sX4_moreTests : Cond.instanceMethod mX4_moreTests.1 ∈ lw_g ∧ Cond.selects mX4_moreTests.1.cls mX4_moreTests.1 mX4_moreTests.1 ∈ lw_g := ⟨h_t5 77 rfl rfl, h_ins 39 rfl⟩
theorem dX4_parse_281 : decode cX4_parse 281 = .ok (.invokevirtual 74, 3) := by decide +kernel
theorem dX4_parse_284 : decode cX4_parse 284 = .ok (.istore 4, 2) := by decide +kernel
theorem dX4_parse_286 : decode cX4_parse 286 = .ok (.goto 133, 3) := by decide +kernel
theorem dX4_parse_289 : decode cX4_parse 289 = .ok (.aload_n 0, 1) := by decide +kernel
theorem dX4_parse_290 : decode cX4_parse 290 = .ok (.iload 6, 2) := by decide +kernel
theorem dX4_parse_292 : decode cX4_parse 292 = .ok (.iconst 2, 1) := by decide +kernel
theorem dX4_parse_293 : decode cX4_parse 293 = .ok (.invokevirtual 77, 3) := by decide +kernel
theorem dX4_parse_296 : decode cX4_parse 296 = .ok (.istore 4, 2) := by decide +kernel
theorem dX4_parse_298 : decode cX4_parse 298 = .ok (.goto 121, 3) := by decide +kernel
theorem dX4_parse_301 : decode cX4_parse 301 = .ok (.aload_n 0, 1) := by decide +kernel
theorem dX4_parse_302 : decode cX4_parse 302 = .ok (.getfield 10, 3) := by decide +kernel
theorem dX4_parse_305 : decode cX4_parse 305 = .ok (.getfield 37, 3) := by decide +kernel
theorem dX4_parse_308 : decode cX4_parse 308 = .ok (.iconst 1, 1) := by decide +kernel
theorem dX4_parse_309 : decode cX4_parse 309 = .ok (.if_icmp .ne 12, 3) := by decide +kernel
theorem dX4_parse_321 : decode cX4_parse 321 = .ok (.aload_n 0, 1) := by decide +kernel
theorem dX4_parse_322 : decode cX4_parse 322 = .ok (.iconst 2, 1) := by decide +kernel
theorem dX4_parse_323 : decode cX4_parse 323 = .ok (.invokevirtual 84, 3) := by decide +kernel
theorem dX4_parse_326 : decode cX4_parse 326 = .ok (.istore 4, 2) := by decide +kernel
theorem dX4_parse_328 : decode cX4_parse 328 = .ok (.goto 91, 3) := by decide +kernel
theorem dX4_parse_312 : decode cX4_parse 312 = .ok (.aload_n 0, 1) := by decide +kernel
theorem dX4_parse_313 : decode cX4_parse 313 = .ok (.iload 6, 2) := by decide +kernel
theorem kX4_takeTag : h_ml mX4_takeTag 1 := ⟨h_t5 86 rfl rfl, h_t1 2 rfl rfl, ⟨by decide, by decide, by decide +kernel⟩, by decide⟩
theorem lX4_81 : Cond.methodLink RX4 81 mX4_takeTag.1 ∈ lw_g := h_t5 83 rfl rfl
theorem sX4_takeTag : Cond.instanceMethod mX4_takeTag.1 ∈ lw_g ∧ Cond.selects mX4_takeTag.1.cls mX4_takeTag.1 mX4_takeTag.1 ∈ lw_g := ⟨h_t5 85 rfl rfl, h_ins 41 rfl⟩
theorem dX4_parse_315 : decode cX4_parse 315 = .ok (.invokevirtual 81, 3) := by decide +kernel
theorem dX4_parse_318 : decode cX4_parse 318 = .ok (.goto 8, 3) := by decide +kernel
theorem dX4_parse_331 : decode cX4_parse 331 = .ok (.aload_n 0, 1) := by decide +kernel
theorem dX4_parse_332 : decode cX4_parse 332 = .ok (.iload 6, 2) := by decide +kernel
theorem kX4_takeNumber : h_ml mX4_takeNumber 1 := ⟨h_t5 99 rfl rfl, h_t1 2 rfl rfl, ⟨by decide, by decide, by decide +kernel⟩, by decide⟩
theorem lX4_87 : Cond.methodLink RX4 87 mX4_takeNumber.1 ∈ lw_g := h_t5 96 rfl rfl
theorem sX4_takeNumber : Cond.instanceMethod mX4_takeNumber.1 ∈ lw_g ∧ Cond.selects mX4_takeNumber.1.cls mX4_takeNumber.1 mX4_takeNumber.1 ∈ lw_g := ⟨h_t5 98 rfl rfl, h_ins 42 rfl⟩
theorem dX4_parse_334 : decode cX4_parse 334 = .ok (.invokevirtual 87, 3) := by decide +kernel
theorem dX4_parse_337 : decode cX4_parse 337 = .ok (.istore 4, 2) := by decide +kernel
theorem dX4_parse_339 : decode cX4_parse 339 = .ok (.goto 80, 3) := by decide +kernel
theorem dX4_parse_342 : decode cX4_parse 342 = .ok (.aload_n 0, 1) := by decide +kernel
theorem dX4_parse_343 : decode cX4_parse 343 = .ok (.iload 6, 2) := by decide +kernel
theorem kX4_takeString : h_ml mX4_takeString 1 := ⟨h_t5 103 rfl rfl, h_t1 2 rfl rfl, ⟨by decide, by decide, by decide +kernel⟩, by decide⟩
theorem lX4_90 : Cond.methodLink RX4 90 mX4_takeString.1 ∈ lw_g := h_t5 100 rfl rfl
theorem sX4_takeString : Cond.instanceMethod mX4_takeString.1 ∈ lw_g ∧ Cond.selects mX4_takeString.1.cls mX4_takeString.1 mX4_takeString.1 ∈ lw_g := ⟨h_t5 102 rfl rfl, h_ins 43 rfl⟩
theorem dX4_parse_345 : decode cX4_parse 345 = .ok (.invokevirtual 90, 3) := by decide +kernel
theorem dX4_parse_348 : decode cX4_parse 348 = .ok (.istore 4, 2) := by decide +kernel
theorem dX4_parse_350 : decode cX4_parse 350 = .ok (.goto 69, 3) := by decide +kernel
theorem dX4_parse_353 : decode cX4_parse 353 = .ok (.aload_n 0, 1) := by decide +kernel
theorem dX4_parse_354 : decode cX4_parse 354 = .ok (.getfield 10, 3) := by decide +kernel
theorem dX4_parse_357 : decode cX4_parse 357 = .ok (.bipush 91, 2) := by decide +kernel
theorem dX4_parse_359 : decode cX4_parse 359 = .ok (.invokevirtual 61, 3) := by decide +kernel
theorem dX4_parse_362 : decode cX4_parse 362 = .ok (.ifCond .eq 12, 3) := by decide +kernel
theorem dX4_parse_374 : decode cX4_parse 374 = .ok (.aload_n 0, 1) := by decide +kernel
theorem dX4_parse_375 : decode cX4_parse 375 = .ok (.iload 6, 2) := by decide +kernel
theorem dX4_parse_377 : decode cX4_parse 377 = .ok (.invokevirtual 90, 3) := by decide +kernel
theorem dX4_parse_380 : decode cX4_parse 380 = .ok (.istore 4, 2) := by decide +kernel
theorem dX4_parse_382 : decode cX4_parse 382 = .ok (.goto 37, 3) := by decide +kernel
theorem dX4_parse_365 : decode cX4_parse 365 = .ok (.aload_n 0, 1) := by decide +kernel
theorem dX4_parse_366 : decode cX4_parse 366 = .ok (.iload 6, 2) := by decide +kernel
theorem kX4_openList : h_ml mX4_openList 1 := ⟨h_t5 124 rfl rfl, h_t1 2 rfl rfl, ⟨by decide, by decide, by decide +kernel⟩, by decide⟩
theorem lX4_93 : Cond.methodLink RX4 93 mX4_openList.1 ∈ lw_g := h_t5 121 rfl rfl
theorem sX4_openList : Cond.instanceMethod mX4_openList.1 ∈ lw_g ∧ Cond.selects mX4_openList.1.cls mX4_openList.1 mX4_openList.1 ∈ lw_g := ⟨h_t5 123 rfl rfl, h_ins 45 rfl⟩
theorem dX4_parse_368 : decode cX4_parse 368 = .ok (.invokevirtual 93, 3) := by decide +kernel
theorem dX4_parse_371 : decode cX4_parse 371 = .ok (.goto 9, 3) := by decide +kernel
theorem dX4_parse_385 : decode cX4_parse 385 = .ok (.aload_n 0, 1) := by decide +kernel
theorem dX4_parse_386 : decode cX4_parse 386 = .ok (.iload 6, 2) := by decide +kernel
theorem kX4_moreStrings : h_ml mX4_moreStrings 1 := ⟨h_t5 128 rfl rfl, h_t1 2 rfl rfl, ⟨by decide, by decide, by decide +kernel⟩, by decide⟩
theorem lX4_96 : Cond.methodLink RX4 96 mX4_moreStrings.1 ∈ lw_g := h_t5 125 rfl rfl
theorem sX4_moreStrings : Cond.instanceMethod mX4_moreStrings.1 ∈ lw_g ∧ Cond.selects mX4_moreStrings.1.cls mX4_moreStrings.1 mX4_moreStrings.1 ∈ lw_g := ⟨h_t5 127 rfl rfl, h_ins 46 rfl⟩
theorem dX4_parse_388 : decode cX4_parse 388 = .ok (.invokevirtual 96, 3) := by decide +kernel
theorem dX4_parse_391 : decode cX4_parse 391 = .ok (.istore 4, 2) := by decide +kernel
theorem dX4_parse_393 : decode cX4_parse 393 = .ok (.goto 26, 3) := by decide +kernel
theorem dX4_parse_396 : decode cX4_parse 396 = .ok (.aload_n 0, 1) := by decide +kernel
theorem dX4_parse_397 : decode cX4_parse 397 = .ok (.getfield 10, 3) := by decide +kernel
theorem dX4_parse_400 : decode cX4_parse 400 = .ok (.iload 6, 2) := by decide +kernel
theorem dX4_parse_402 : decode cX4_parse 402 = .ok (.invokevirtual 61, 3) := by decide +kernel
theorem dX4_parse_405 : decode cX4_parse 405 = .ok (.ifCond .eq 11, 3) := by decide +kernel
theorem dX4_parse_416 : decode cX4_parse 416 = .ok (.iconst 0, 1) := by decide +kernel
theorem dX4_parse_417 : decode cX4_parse 417 = .ok (.istore 4, 2) := by decide +kernel
theorem dX4_parse_408 : decode cX4_parse 408 = .ok (.aload_n 0, 1) := by decide +kernel
theorem dX4_parse_409 : decode cX4_parse 409 = .ok (.iconst 1, 1) := by decide +kernel
theorem dX4_parse_410 : decode cX4_parse 410 = .ok (.invokevirtual 84, 3) := by decide +kernel
theorem dX4_parse_413 : decode cX4_parse 413 = .ok (.goto 4, 3) := by decide +kernel
theorem dX4_parse_33 : decode cX4_parse 33 = .ok (.iload 4, 2) := by decide +kernel
theorem dX4_parse_35 : decode cX4_parse 35 = .ok (.iconst 1, 1) := by decide +kernel
theorem dX4_parse_36 : decode cX4_parse 36 = .ok (.if_icmp .ne 10, 3) := by decide +kernel
theorem dX4_parse_39 : decode cX4_parse 39 = .ok (.aload_n 0, 1) := by decide +kernel
theorem dX4_parse_40 : decode cX4_parse 40 = .ok (.getfield 10, 3) := by decide +kernel
theorem kX2_next : h_ml mX2_next 0 := ⟨h_t4 197 rfl rfl, h_t1 3 rfl rfl, ⟨by decide, by decide, by decide +kernel⟩, by decide⟩
theorem lX4_34 : Cond.methodLink RX4 34 mX2_next.1 ∈ lw_g := h_t4 194 rfl rfl
theorem sX2_next : Cond.instanceMethod mX2_next.1 ∈ lw_g ∧ Cond.selects mX2_next.1.cls mX2_next.1 mX2_next.1 ∈ lw_g := ⟨h_t4 195 rfl rfl, h_t4 196 rfl rfl⟩
theorem dX4_parse_43 : decode cX4_parse 43 = .ok (.invokevirtual 34, 3) := by decide +kernel
theorem dX4_parse_13 : decode cX4_parse 13 = .ok (.iload 5, 2) := by decide +kernel
theorem dX4_parse_15 : decode cX4_parse 15 = .ok (.sipush 20000, 3) := by decide +kernel
theorem dX4_parse_18 : decode cX4_parse 18 = .ok (.if_icmp .ge 407, 3) := by decide +kernel
theorem dX4_parse_21 : decode cX4_parse 21 = .ok (.iload 4, 2) := by decide +kernel
theorem dX4_parse_23 : decode cX4_parse 23 = .ok (.iconst 2, 1) := by decide +kernel
theorem dX4_parse_24 : decode cX4_parse 24 = .ok (.if_icmp .eq 9, 3) := by decide +kernel
theorem dX4_parse_27 : decode cX4_parse 27 = .ok (.iload 4, 2) := by decide +kernel
theorem dX4_parse_29 : decode cX4_parse 29 = .ok (.iconst 1, 1) := by decide +kernel
theorem dX4_parse_30 : decode cX4_parse 30 = .ok (.if_icmp .ne 395, 3) := by decide +kernel
theorem dX4_parse_0 : decode cX4_parse 0 = .ok (.aload_n 0, 1) := by decide +kernel
theorem dX4_parse_1 : decode cX4_parse 1 = .ok (.aload_n 1, 1) := by decide +kernel
theorem dX4_parse_2 : decode cX4_parse 2 = .ok (.iload_n 2, 1) := by decide +kernel
theorem dX4_parse_3 : decode cX4_parse 3 = .ok (.iload_n 3, 1) := by decide +kernel
theorem kX4_open : h_ml mX4_open 3 := ⟨h_t4 173 rfl rfl, h_t1 2 rfl rfl, ⟨by decide, by decide, by decide +kernel⟩, by decide⟩
theorem lX4_30 : Cond.methodLink RX4 30 mX4_open.1 ∈ lw_g := h_t4 170 rfl rfl
theorem sX4_open : Cond.instanceMethod mX4_open.1 ∈ lw_g ∧ Cond.selects mX4_open.1.cls mX4_open.1 mX4_open.1 ∈ lw_g := ⟨h_t4 172 rfl rfl, h_ins 17 rfl⟩
theorem dX4_parse_4 : decode cX4_parse 4 = .ok (.invokevirtual 30, 3) := by decide +kernel
theorem dX4_parse_7 : decode cX4_parse 7 = .ok (.iconst 1, 1) := by decide +kernel
theorem dX4_parse_8 : decode cX4_parse 8 = .ok (.istore 4, 2) := by decide +kernel
theorem dX4_parse_10 : decode cX4_parse 10 = .ok (.iconst 0, 1) := by decide +kernel
theorem dX4_parse_11 : decode cX4_parse 11 = .ok (.istore 5, 2) := by decide +kernel
def fb_X4_parse_425  (x4 : Int32) (s : uS) : Option (uS × Int32) := if x4 = 3 then (some (s, (0 : Int32))) else ((fn_X2_line s).bind fun v2 => some (s, v2))
set_option maxRecDepth 100000 in
set_option maxHeartbeats 4000000 in
theorem xb_X4_parse_425 {l : Launch} {D : va_G} {A : Nat → ClassId} {B : Nat} {Z : State → Heap → Prop} {vF : Value} (uk : uK B Z vF) (un : uX A B Z)   {x4 : Int32} {s : uS} {r : (uS × Int32)}  (h : fb_X4_parse_425  x4 s = some r) : GU l D A B Z mX4_parse 8 (r.1, some (.int r.2)) s 425 [(0, .ref (B + 6)), (4, .int x4)] [] := by
  unfold fb_X4_parse_425 at h
  refine uu_iload dX4_parse_425 (List.mem_of_getElem? (i := 1) rfl) ?_
  refine uu_iconst (v := 3) dX4_parse_427 (by decide) ?_
  refine uu_icmp_ne (tgt := 435) dX4_parse_428 (by decide) (fun c1 => ?_) (fun c1 => ?_)
  · replace h := uu_neg c1 h
    refine uu_aload_n dX4_parse_435 rfl (List.mem_of_getElem? (i := 0) rfl) ?_
    refine uu_geta (ci := 4) (N := 9) fX4_10 (by decide) so_6.is (by decide) (c := 7) (by decide) dX4_parse_436 ?_
    obtain ⟨v2, e3, h⟩ := uu_ob h
    refine uu_cv (d1 := 0) (k := 7) (ci := 2) (T := TX2) (N := 9) (As := []) (st := []) (st' := [.int v2]) (xc_X2_line uk  e3) so_7.is (by decide) rfl kX2_line lX4_47 sX2_line (by decide) (Nat.le_of_ble_eq_true rfl) dX4_parse_439 rfl ?_
    have hr := Option.some.inj h
    subst hr
    exact uu_iret rfl dX4_parse_442
  · replace h := uu_pos c1 h
    refine uu_iconst (v := 0) dX4_parse_431 (by decide) ?_
    refine uu_goto (tgt := 442) dX4_parse_432 (by decide) ?_
    have hr := Option.some.inj h
    subst hr
    exact uu_iret rfl dX4_parse_442
def fb_X4_parse_84   (s : uS) : Option (uS × Int32) := (fn_X2_line s).bind fun v1 => some (s, v1)
set_option maxRecDepth 100000 in
set_option maxHeartbeats 4000000 in
theorem xb_X4_parse_84 {l : Launch} {D : va_G} {A : Nat → ClassId} {B : Nat} {Z : State → Heap → Prop} {vF : Value} (uk : uK B Z vF) (un : uX A B Z)    {s : uS} {r : (uS × Int32)}  (h : fb_X4_parse_84   s = some r) : GU l D A B Z mX4_parse 8 (r.1, some (.int r.2)) s 84 [(0, .ref (B + 6))] [] := by
  unfold fb_X4_parse_84 at h
  refine uu_aload_n dX4_parse_84 rfl (List.mem_of_getElem? (i := 0) rfl) ?_
  refine uu_geta (ci := 4) (N := 9) fX4_10 (by decide) so_6.is (by decide) (c := 7) (by decide) dX4_parse_85 ?_
  obtain ⟨v1, e2, h⟩ := uu_ob h
  refine uu_cv (d1 := 0) (k := 7) (ci := 2) (T := TX2) (N := 9) (As := []) (st := []) (st' := [.int v1]) (xc_X2_line uk  e2) so_7.is (by decide) rfl kX2_line lX4_47 sX2_line (by decide) (Nat.le_of_ble_eq_true rfl) dX4_parse_88 rfl ?_
  have hr := Option.some.inj h
  subst hr
  exact uu_iret rfl dX4_parse_91
def fb_X4_parse_46 (K13 : Int32 → Int32 → uS → Option (uS × Int32)) (x5 : Int32) (s : uS) : Option (uS × Int32) := if (s.I 7 2) = 6 then (fb_X4_parse_84 s) else (if (s.I 6 5) = 0 then (fb_X4_parse_84 s) else (if (116 : Int32) < (s.I 6 5) then (fb_X4_parse_84 s) else (if (s.I 6 2) < 320 then ((iget 20 s 15 ((s.I 6 5) - 1)).bind fun v5 => (iget 20 s 14 ((s.I 6 5) - 1)).bind fun v7 => if v7 = 0 then ((fn_X4_require s).bind fun r9 => K13 r9.2 (x5 + 1) r9.1) else (if v7 = 1 then (if (s.I 7 2) = 5 then (K13 3 (x5 + 1) s) else ((fn_X4_startCommand s).bind fun r12 => K13 r12.2 (x5 + 1) r12.1)) else (if v7 = 2 then ((fn_X4_openBlock v5 s).bind fun r14 => K13 r14.2 (x5 + 1) r14.1) else (if v7 = 3 then ((fn_X2_isSign 125 s).bind fun v16 => if v16 = true then ((fn_X4_closeBlock v5 s).bind fun r21 => K13 r21.2 (x5 + 1) r21.1) else ((fn_X4_startCommand s).bind fun r19 => K13 r19.2 (x5 + 1) r19.1)) else (if v7 = 4 then ((fn_X4_startElse s).bind fun r23 => K13 r23.2 (x5 + 1) r23.1) else (if v7 = 5 then ((fn_X4_startTest v5 s).bind fun r25 => K13 r25.2 (x5 + 1) r25.1) else (if v7 = 6 then ((fn_X4_moreTests v5 s).bind fun r27 => K13 r27.2 (x5 + 1) r27.1) else (if v7 = 7 then ((fn_X4_endTest v5 2 s).bind fun r29 => K13 r29.2 (x5 + 1) r29.1) else (if v7 = 8 then (if (s.I 7 2) = 1 then ((fn_X4_takeTag v5 s).bind fun r34 => K13 r34.2 (x5 + 1) r34.1) else ((fn_X4_pop 2 s).bind fun r32 => K13 r32.2 (x5 + 1) r32.1)) else (if v7 = 9 then ((fn_X4_takeNumber v5 s).bind fun r36 => K13 r36.2 (x5 + 1) r36.1) else (if v7 = 10 then ((fn_X4_takeString v5 s).bind fun r38 => K13 r38.2 (x5 + 1) r38.1) else (if v7 = 11 then ((fn_X2_isSign 91 s).bind fun v40 => if v40 = true then ((fn_X4_openList v5 s).bind fun r45 => K13 r45.2 (x5 + 1) r45.1) else ((fn_X4_takeString v5 s).bind fun r43 => K13 r43.2 (x5 + 1) r43.1)) else (if v7 = 12 then ((fn_X4_moreStrings v5 s).bind fun r47 => K13 r47.2 (x5 + 1) r47.1) else ((fn_X2_isSign v5 s).bind fun v49 => if v49 = true then ((fn_X4_pop 1 s).bind fun r52 => K13 r52.2 (x5 + 1) r52.1) else (K13 0 (x5 + 1) s))))))))))))))) else (fb_X4_parse_84 s))))
set_option maxRecDepth 100000 in
set_option maxHeartbeats 4000000 in
theorem xb_X4_parse_46 {l : Launch} {D : va_G} {A : Nat → ClassId} {B : Nat} {Z : State → Heap → Prop} {vF : Value} (uk : uK B Z vF) (un : uX A B Z) {K13 : Int32 → Int32 → uS → Option (uS × Int32)} (hK13 : ∀ (x4 : Int32) (x5 : Int32)  (s : uS) (r : (uS × Int32)), K13 x4 x5 s = some r → GU l D A B Z mX4_parse 8 (r.1, some (.int r.2)) s 13 [(0, .ref (B + 6)), (4, .int x4), (5, .int x5)] []) {x5 : Int32} {s : uS} {r : (uS × Int32)}  (h : fb_X4_parse_46 K13 x5 s = some r) : GU l D A B Z mX4_parse 8 (r.1, some (.int r.2)) s 46 [(0, .ref (B + 6)), (5, .int x5)] [] := by
  unfold fb_X4_parse_46 at h
  refine uu_aload_n dX4_parse_46 rfl (List.mem_of_getElem? (i := 0) rfl) ?_
  refine uu_geta (ci := 4) (N := 9) fX4_10 (by decide) so_6.is (by decide) (c := 7) (by decide) dX4_parse_47 ?_
  refine uu_geti (ci := 2) (N := 9) fX4_37 (by decide) so_7.is (by decide) (by decide) dX4_parse_50 ?_
  refine uu_bipush (v := 6) dX4_parse_53 (by decide) ?_
  refine uu_icmp_eq (tgt := 84) dX4_parse_55 (by decide) (fun c1 => ?_) (fun c1 => ?_)
  · replace h := uu_pos c1 h
    refine uu_lv [0] (lv' := [(0, .ref (B + 6))]) rfl ?_
    exact xb_X4_parse_84 uk un  h
  · replace h := uu_neg c1 h
    refine uu_aload_n dX4_parse_58 rfl (List.mem_of_getElem? (i := 0) rfl) ?_
    refine uu_geti (ci := 4) (N := 9) fX4_41 (by decide) so_6.is (by decide) (by decide) dX4_parse_59 ?_
    refine uu_if_eq (tgt := 84) dX4_parse_62 (by decide) (fun c2 => ?_) (fun c2 => ?_)
    · replace h := uu_pos c2 h
      refine uu_lv [0] (lv' := [(0, .ref (B + 6))]) rfl ?_
      exact xb_X4_parse_84 uk un  h
    · replace h := uu_neg c2 h
      refine uu_aload_n dX4_parse_65 rfl (List.mem_of_getElem? (i := 0) rfl) ?_
      refine uu_geti (ci := 4) (N := 9) fX4_41 (by decide) so_6.is (by decide) (by decide) dX4_parse_66 ?_
      refine uu_bipush (v := 116) dX4_parse_69 (by decide) ?_
      refine uu_icmp_gt (tgt := 84) dX4_parse_71 (by decide) (fun c3 => ?_) (fun c3 => ?_)
      · replace h := uu_pos c3 h
        refine uu_lv [0] (lv' := [(0, .ref (B + 6))]) rfl ?_
        exact xb_X4_parse_84 uk un  h
      · replace h := uu_neg c3 h
        refine uu_aload_n dX4_parse_74 rfl (List.mem_of_getElem? (i := 0) rfl) ?_
        refine uu_geti (ci := 4) (N := 9) fX4_44 (by decide) so_6.is (by decide) (by decide) dX4_parse_75 ?_
        refine uu_sipush (v := 320) dX4_parse_78 (by decide) ?_
        refine uu_icmp_lt (tgt := 92) dX4_parse_81 (by decide) (fun c4 => ?_) (fun c4 => ?_)
        · replace h := uu_pos c4 h
          refine uu_aload_n dX4_parse_92 rfl (List.mem_of_getElem? (i := 0) rfl) ?_
          refine uu_geta (ci := 4) (N := 9) fX4_26 (by decide) so_6.is (by decide) (c := 15) (by decide) dX4_parse_93 ?_
          refine uu_aload_n dX4_parse_96 rfl (List.mem_of_getElem? (i := 0) rfl) ?_
          refine uu_geti (ci := 4) (N := 9) fX4_41 (by decide) so_6.is (by decide) (by decide) dX4_parse_97 ?_
          refine uu_iconst (v := 1) dX4_parse_100 (by decide) ?_
          refine uu_isub dX4_parse_101 ?_
          obtain ⟨v5, e6, h⟩ := uu_ob h
          refine uu_iald e6 dX4_parse_102 ?_
          refine uu_istore dX4_parse_103 (by decide) rfl ?_
          refine uu_aload_n dX4_parse_105 rfl (List.mem_of_getElem? (i := 1) rfl) ?_
          refine uu_geta (ci := 4) (N := 9) fX4_22 (by decide) so_6.is (by decide) (c := 14) (by decide) dX4_parse_106 ?_
          refine uu_aload_n dX4_parse_109 rfl (List.mem_of_getElem? (i := 1) rfl) ?_
          refine uu_geti (ci := 4) (N := 9) fX4_41 (by decide) so_6.is (by decide) (by decide) dX4_parse_110 ?_
          refine uu_iconst (v := 1) dX4_parse_113 (by decide) ?_
          refine uu_isub dX4_parse_114 ?_
          obtain ⟨v7, e8, h⟩ := uu_ob h
          refine uu_iald e8 dX4_parse_115 ?_
          by_cases c116_0 : v7 = 0
          · replace h := uu_pos c116_0 h
            refine uu_tabE (tgt := 184) (off := 68) (v := 0) dX4_parse_116 c116_0 (by decide) (by decide) rfl (by decide) ?_
            refine uu_aload_n dX4_parse_184 rfl (List.mem_of_getElem? (i := 1) rfl) ?_
            obtain ⟨r9, e10, h⟩ := uu_ob h
            refine uu_cv (d1 := 6) (k := 6) (ci := 4) (T := TX4) (N := 9) (As := []) (st := []) (st' := [.int r9.2]) (xc_X4_require uk  e10) so_6.is (by decide) rfl kX4_require lX4_51 sX4_require (by decide) (Nat.le_of_ble_eq_true rfl) dX4_parse_185 rfl ?_
            refine uu_istore dX4_parse_188 (by decide) rfl ?_
            refine uu_goto (tgt := 419) dX4_parse_190 (by decide) ?_
            refine uu_iinc (v := x5 + 1) dX4_parse_419 (k := 3) rfl rfl (by decide) rfl ?_
            refine uu_goto (tgt := 13) dX4_parse_422 (by decide) ?_
            refine uu_lv [3, 1, 0] (lv' := [(0, .ref (B + 6)), (4, .int r9.2), (5, .int (x5 + 1))]) rfl ?_
            exact hK13 r9.2 (x5 + 1) _ _ h
          replace h := uu_neg c116_0 h
          by_cases c116_1 : v7 = 1
          · replace h := uu_pos c116_1 h
            refine uu_tabE (tgt := 193) (off := 77) (v := 1) dX4_parse_116 c116_1 (by decide) (by decide) rfl (by decide) ?_
            refine uu_aload_n dX4_parse_193 rfl (List.mem_of_getElem? (i := 1) rfl) ?_
            refine uu_geta (ci := 4) (N := 9) fX4_10 (by decide) so_6.is (by decide) (c := 7) (by decide) dX4_parse_194 ?_
            refine uu_geti (ci := 2) (N := 9) fX4_37 (by decide) so_7.is (by decide) (by decide) dX4_parse_197 ?_
            refine uu_iconst (v := 5) dX4_parse_200 (by decide) ?_
            refine uu_icmp_ne (tgt := 208) dX4_parse_201 (by decide) (fun c11 => ?_) (fun c11 => ?_)
            · replace h := uu_neg c11 h
              refine uu_aload_n dX4_parse_208 rfl (List.mem_of_getElem? (i := 1) rfl) ?_
              obtain ⟨r12, e13, h⟩ := uu_ob h
              refine uu_cv (d1 := 6) (k := 6) (ci := 4) (T := TX4) (N := 9) (As := []) (st := []) (st' := [.int r12.2]) (xc_X4_startCommand uk un  e13) so_6.is (by decide) rfl kX4_startCommand lX4_54 sX4_startCommand (by decide) (Nat.le_of_ble_eq_true rfl) dX4_parse_209 rfl ?_
              refine uu_istore dX4_parse_212 (by decide) rfl ?_
              refine uu_goto (tgt := 419) dX4_parse_214 (by decide) ?_
              refine uu_iinc (v := x5 + 1) dX4_parse_419 (k := 3) rfl rfl (by decide) rfl ?_
              refine uu_goto (tgt := 13) dX4_parse_422 (by decide) ?_
              refine uu_lv [3, 1, 0] (lv' := [(0, .ref (B + 6)), (4, .int r12.2), (5, .int (x5 + 1))]) rfl ?_
              exact hK13 r12.2 (x5 + 1) _ _ h
            · replace h := uu_pos c11 h
              refine uu_iconst (v := 3) dX4_parse_204 (by decide) ?_
              refine uu_goto (tgt := 212) dX4_parse_205 (by decide) ?_
              refine uu_istore dX4_parse_212 (by decide) rfl ?_
              refine uu_goto (tgt := 419) dX4_parse_214 (by decide) ?_
              refine uu_iinc (v := x5 + 1) dX4_parse_419 (k := 3) rfl rfl (by decide) rfl ?_
              refine uu_goto (tgt := 13) dX4_parse_422 (by decide) ?_
              refine uu_lv [3, 1, 0] (lv' := [(0, .ref (B + 6)), (4, .int 3), (5, .int (x5 + 1))]) rfl ?_
              exact hK13 3 (x5 + 1) _ _ h
          replace h := uu_neg c116_1 h
          by_cases c116_2 : v7 = 2
          · replace h := uu_pos c116_2 h
            refine uu_tabE (tgt := 217) (off := 101) (v := 2) dX4_parse_116 c116_2 (by decide) (by decide) rfl (by decide) ?_
            refine uu_aload_n dX4_parse_217 rfl (List.mem_of_getElem? (i := 1) rfl) ?_
            refine uu_iload dX4_parse_218 (List.mem_of_getElem? (i := 0) rfl) ?_
            obtain ⟨r14, e15, h⟩ := uu_ob h
            refine uu_cv (d1 := 1) (k := 6) (ci := 4) (T := TX4) (N := 9) (As := [.int v5]) (st := []) (st' := [.int r14.2]) (xc_X4_openBlock uk  e15) so_6.is (by decide) rfl kX4_openBlock lX4_57 sX4_openBlock (by decide) (Nat.le_of_ble_eq_true rfl) dX4_parse_220 rfl ?_
            refine uu_istore dX4_parse_223 (by decide) rfl ?_
            refine uu_goto (tgt := 419) dX4_parse_225 (by decide) ?_
            refine uu_iinc (v := x5 + 1) dX4_parse_419 (k := 3) rfl rfl (by decide) rfl ?_
            refine uu_goto (tgt := 13) dX4_parse_422 (by decide) ?_
            refine uu_lv [3, 1, 0] (lv' := [(0, .ref (B + 6)), (4, .int r14.2), (5, .int (x5 + 1))]) rfl ?_
            exact hK13 r14.2 (x5 + 1) _ _ h
          replace h := uu_neg c116_2 h
          by_cases c116_3 : v7 = 3
          · replace h := uu_pos c116_3 h
            refine uu_tabE (tgt := 228) (off := 112) (v := 3) dX4_parse_116 c116_3 (by decide) (by decide) rfl (by decide) ?_
            refine uu_aload_n dX4_parse_228 rfl (List.mem_of_getElem? (i := 1) rfl) ?_
            refine uu_geta (ci := 4) (N := 9) fX4_10 (by decide) so_6.is (by decide) (c := 7) (by decide) dX4_parse_229 ?_
            refine uu_bipush (v := 125) dX4_parse_232 (by decide) ?_
            obtain ⟨v16, e17, h⟩ := uu_ob h
            refine uu_cv (d1 := 0) (k := 7) (ci := 2) (T := TX2) (N := 9) (As := [.int 125]) (st := []) (st' := [.int (bI v16)]) (xc_X2_isSign uk  e17) so_7.is (by decide) rfl kX2_isSign lX4_61 sX2_isSign (by decide) (Nat.le_of_ble_eq_true rfl) dX4_parse_234 rfl ?_
            refine uu_ifb_eq (tgt := 249) dX4_parse_237 (by decide) (fun c18 => ?_) (fun c18 => ?_)
            · replace h := uu_neg c18 h
              refine uu_aload_n dX4_parse_249 rfl (List.mem_of_getElem? (i := 1) rfl) ?_
              obtain ⟨r19, e20, h⟩ := uu_ob h
              refine uu_cv (d1 := 6) (k := 6) (ci := 4) (T := TX4) (N := 9) (As := []) (st := []) (st' := [.int r19.2]) (xc_X4_startCommand uk un  e20) so_6.is (by decide) rfl kX4_startCommand lX4_54 sX4_startCommand (by decide) (Nat.le_of_ble_eq_true rfl) dX4_parse_250 rfl ?_
              refine uu_istore dX4_parse_253 (by decide) rfl ?_
              refine uu_goto (tgt := 419) dX4_parse_255 (by decide) ?_
              refine uu_iinc (v := x5 + 1) dX4_parse_419 (k := 3) rfl rfl (by decide) rfl ?_
              refine uu_goto (tgt := 13) dX4_parse_422 (by decide) ?_
              refine uu_lv [3, 1, 0] (lv' := [(0, .ref (B + 6)), (4, .int r19.2), (5, .int (x5 + 1))]) rfl ?_
              exact hK13 r19.2 (x5 + 1) _ _ h
            · replace h := uu_pos c18 h
              refine uu_aload_n dX4_parse_240 rfl (List.mem_of_getElem? (i := 1) rfl) ?_
              refine uu_iload dX4_parse_241 (List.mem_of_getElem? (i := 0) rfl) ?_
              obtain ⟨r21, e22, h⟩ := uu_ob h
              refine uu_cv (d1 := 3) (k := 6) (ci := 4) (T := TX4) (N := 9) (As := [.int v5]) (st := []) (st' := [.int r21.2]) (xc_X4_closeBlock uk un  e22) so_6.is (by decide) rfl kX4_closeBlock lX4_65 sX4_closeBlock (by decide) (Nat.le_of_ble_eq_true rfl) dX4_parse_243 rfl ?_
              refine uu_goto (tgt := 253) dX4_parse_246 (by decide) ?_
              refine uu_istore dX4_parse_253 (by decide) rfl ?_
              refine uu_goto (tgt := 419) dX4_parse_255 (by decide) ?_
              refine uu_iinc (v := x5 + 1) dX4_parse_419 (k := 3) rfl rfl (by decide) rfl ?_
              refine uu_goto (tgt := 13) dX4_parse_422 (by decide) ?_
              refine uu_lv [3, 1, 0] (lv' := [(0, .ref (B + 6)), (4, .int r21.2), (5, .int (x5 + 1))]) rfl ?_
              exact hK13 r21.2 (x5 + 1) _ _ h
          replace h := uu_neg c116_3 h
          by_cases c116_4 : v7 = 4
          · replace h := uu_pos c116_4 h
            refine uu_tabE (tgt := 258) (off := 142) (v := 4) dX4_parse_116 c116_4 (by decide) (by decide) rfl (by decide) ?_
            refine uu_aload_n dX4_parse_258 rfl (List.mem_of_getElem? (i := 1) rfl) ?_
            obtain ⟨r23, e24, h⟩ := uu_ob h
            refine uu_cv (d1 := 6) (k := 6) (ci := 4) (T := TX4) (N := 9) (As := []) (st := []) (st' := [.int r23.2]) (xc_X4_startElse uk un  e24) so_6.is (by decide) rfl kX4_startElse lX4_68 sX4_startElse (by decide) (Nat.le_of_ble_eq_true rfl) dX4_parse_259 rfl ?_
            refine uu_istore dX4_parse_262 (by decide) rfl ?_
            refine uu_goto (tgt := 419) dX4_parse_264 (by decide) ?_
            refine uu_iinc (v := x5 + 1) dX4_parse_419 (k := 3) rfl rfl (by decide) rfl ?_
            refine uu_goto (tgt := 13) dX4_parse_422 (by decide) ?_
            refine uu_lv [3, 1, 0] (lv' := [(0, .ref (B + 6)), (4, .int r23.2), (5, .int (x5 + 1))]) rfl ?_
            exact hK13 r23.2 (x5 + 1) _ _ h
          replace h := uu_neg c116_4 h
          by_cases c116_5 : v7 = 5
          · replace h := uu_pos c116_5 h
            refine uu_tabE (tgt := 267) (off := 151) (v := 5) dX4_parse_116 c116_5 (by decide) (by decide) rfl (by decide) ?_
            refine uu_aload_n dX4_parse_267 rfl (List.mem_of_getElem? (i := 1) rfl) ?_
            refine uu_iload dX4_parse_268 (List.mem_of_getElem? (i := 0) rfl) ?_
            obtain ⟨r25, e26, h⟩ := uu_ob h
            refine uu_cv (d1 := 6) (k := 6) (ci := 4) (T := TX4) (N := 9) (As := [.int v5]) (st := []) (st' := [.int r25.2]) (xc_X4_startTest uk un  e26) so_6.is (by decide) rfl kX4_startTest lX4_71 sX4_startTest (by decide) (Nat.le_of_ble_eq_true rfl) dX4_parse_270 rfl ?_
            refine uu_istore dX4_parse_273 (by decide) rfl ?_
            refine uu_goto (tgt := 419) dX4_parse_275 (by decide) ?_
            refine uu_iinc (v := x5 + 1) dX4_parse_419 (k := 3) rfl rfl (by decide) rfl ?_
            refine uu_goto (tgt := 13) dX4_parse_422 (by decide) ?_
            refine uu_lv [3, 1, 0] (lv' := [(0, .ref (B + 6)), (4, .int r25.2), (5, .int (x5 + 1))]) rfl ?_
            exact hK13 r25.2 (x5 + 1) _ _ h
          replace h := uu_neg c116_5 h
          by_cases c116_6 : v7 = 6
          · replace h := uu_pos c116_6 h
            refine uu_tabE (tgt := 278) (off := 162) (v := 6) dX4_parse_116 c116_6 (by decide) (by decide) rfl (by decide) ?_
            refine uu_aload_n dX4_parse_278 rfl (List.mem_of_getElem? (i := 1) rfl) ?_
            refine uu_iload dX4_parse_279 (List.mem_of_getElem? (i := 0) rfl) ?_
            obtain ⟨r27, e28, h⟩ := uu_ob h
            refine uu_cv (d1 := 2) (k := 6) (ci := 4) (T := TX4) (N := 9) (As := [.int v5]) (st := []) (st' := [.int r27.2]) (xc_X4_moreTests uk  e28) so_6.is (by decide) rfl kX4_moreTests lX4_74 sX4_moreTests (by decide) (Nat.le_of_ble_eq_true rfl) dX4_parse_281 rfl ?_
            refine uu_istore dX4_parse_284 (by decide) rfl ?_
            refine uu_goto (tgt := 419) dX4_parse_286 (by decide) ?_
            refine uu_iinc (v := x5 + 1) dX4_parse_419 (k := 3) rfl rfl (by decide) rfl ?_
            refine uu_goto (tgt := 13) dX4_parse_422 (by decide) ?_
            refine uu_lv [3, 1, 0] (lv' := [(0, .ref (B + 6)), (4, .int r27.2), (5, .int (x5 + 1))]) rfl ?_
            exact hK13 r27.2 (x5 + 1) _ _ h
          replace h := uu_neg c116_6 h
          by_cases c116_7 : v7 = 7
          · replace h := uu_pos c116_7 h
            refine uu_tabE (tgt := 289) (off := 173) (v := 7) dX4_parse_116 c116_7 (by decide) (by decide) rfl (by decide) ?_
            refine uu_aload_n dX4_parse_289 rfl (List.mem_of_getElem? (i := 1) rfl) ?_
            refine uu_iload dX4_parse_290 (List.mem_of_getElem? (i := 0) rfl) ?_
            refine uu_iconst (v := 2) dX4_parse_292 (by decide) ?_
            obtain ⟨r29, e30, h⟩ := uu_ob h
            refine uu_cv (d1 := 1) (k := 6) (ci := 4) (T := TX4) (N := 9) (As := [.int v5, .int 2]) (st := []) (st' := [.int r29.2]) (xc_X4_endTest uk  e30) so_6.is (by decide) rfl kX4_endTest lX4_77 sX4_endTest (by decide) (Nat.le_of_ble_eq_true rfl) dX4_parse_293 rfl ?_
            refine uu_istore dX4_parse_296 (by decide) rfl ?_
            refine uu_goto (tgt := 419) dX4_parse_298 (by decide) ?_
            refine uu_iinc (v := x5 + 1) dX4_parse_419 (k := 3) rfl rfl (by decide) rfl ?_
            refine uu_goto (tgt := 13) dX4_parse_422 (by decide) ?_
            refine uu_lv [3, 1, 0] (lv' := [(0, .ref (B + 6)), (4, .int r29.2), (5, .int (x5 + 1))]) rfl ?_
            exact hK13 r29.2 (x5 + 1) _ _ h
          replace h := uu_neg c116_7 h
          by_cases c116_8 : v7 = 8
          · replace h := uu_pos c116_8 h
            refine uu_tabE (tgt := 301) (off := 185) (v := 8) dX4_parse_116 c116_8 (by decide) (by decide) rfl (by decide) ?_
            refine uu_aload_n dX4_parse_301 rfl (List.mem_of_getElem? (i := 1) rfl) ?_
            refine uu_geta (ci := 4) (N := 9) fX4_10 (by decide) so_6.is (by decide) (c := 7) (by decide) dX4_parse_302 ?_
            refine uu_geti (ci := 2) (N := 9) fX4_37 (by decide) so_7.is (by decide) (by decide) dX4_parse_305 ?_
            refine uu_iconst (v := 1) dX4_parse_308 (by decide) ?_
            refine uu_icmp_ne (tgt := 321) dX4_parse_309 (by decide) (fun c31 => ?_) (fun c31 => ?_)
            · replace h := uu_neg c31 h
              refine uu_aload_n dX4_parse_321 rfl (List.mem_of_getElem? (i := 1) rfl) ?_
              refine uu_iconst (v := 2) dX4_parse_322 (by decide) ?_
              obtain ⟨r32, e33, h⟩ := uu_ob h
              refine uu_cv (d1 := 0) (k := 6) (ci := 4) (T := TX4) (N := 9) (As := [.int 2]) (st := []) (st' := [.int r32.2]) (xc_X4_pop uk  e33) so_6.is (by decide) rfl kX4_pop lX4_84 sX4_pop (by decide) (Nat.le_of_ble_eq_true rfl) dX4_parse_323 rfl ?_
              refine uu_istore dX4_parse_326 (by decide) rfl ?_
              refine uu_goto (tgt := 419) dX4_parse_328 (by decide) ?_
              refine uu_iinc (v := x5 + 1) dX4_parse_419 (k := 3) rfl rfl (by decide) rfl ?_
              refine uu_goto (tgt := 13) dX4_parse_422 (by decide) ?_
              refine uu_lv [3, 1, 0] (lv' := [(0, .ref (B + 6)), (4, .int r32.2), (5, .int (x5 + 1))]) rfl ?_
              exact hK13 r32.2 (x5 + 1) _ _ h
            · replace h := uu_pos c31 h
              refine uu_aload_n dX4_parse_312 rfl (List.mem_of_getElem? (i := 1) rfl) ?_
              refine uu_iload dX4_parse_313 (List.mem_of_getElem? (i := 0) rfl) ?_
              obtain ⟨r34, e35, h⟩ := uu_ob h
              refine uu_cv (d1 := 6) (k := 6) (ci := 4) (T := TX4) (N := 9) (As := [.int v5]) (st := []) (st' := [.int r34.2]) (xc_X4_takeTag uk  e35) so_6.is (by decide) rfl kX4_takeTag lX4_81 sX4_takeTag (by decide) (Nat.le_of_ble_eq_true rfl) dX4_parse_315 rfl ?_
              refine uu_goto (tgt := 326) dX4_parse_318 (by decide) ?_
              refine uu_istore dX4_parse_326 (by decide) rfl ?_
              refine uu_goto (tgt := 419) dX4_parse_328 (by decide) ?_
              refine uu_iinc (v := x5 + 1) dX4_parse_419 (k := 3) rfl rfl (by decide) rfl ?_
              refine uu_goto (tgt := 13) dX4_parse_422 (by decide) ?_
              refine uu_lv [3, 1, 0] (lv' := [(0, .ref (B + 6)), (4, .int r34.2), (5, .int (x5 + 1))]) rfl ?_
              exact hK13 r34.2 (x5 + 1) _ _ h
          replace h := uu_neg c116_8 h
          by_cases c116_9 : v7 = 9
          · replace h := uu_pos c116_9 h
            refine uu_tabE (tgt := 331) (off := 215) (v := 9) dX4_parse_116 c116_9 (by decide) (by decide) rfl (by decide) ?_
            refine uu_aload_n dX4_parse_331 rfl (List.mem_of_getElem? (i := 1) rfl) ?_
            refine uu_iload dX4_parse_332 (List.mem_of_getElem? (i := 0) rfl) ?_
            obtain ⟨r36, e37, h⟩ := uu_ob h
            refine uu_cv (d1 := 1) (k := 6) (ci := 4) (T := TX4) (N := 9) (As := [.int v5]) (st := []) (st' := [.int r36.2]) (xc_X4_takeNumber uk  e37) so_6.is (by decide) rfl kX4_takeNumber lX4_87 sX4_takeNumber (by decide) (Nat.le_of_ble_eq_true rfl) dX4_parse_334 rfl ?_
            refine uu_istore dX4_parse_337 (by decide) rfl ?_
            refine uu_goto (tgt := 419) dX4_parse_339 (by decide) ?_
            refine uu_iinc (v := x5 + 1) dX4_parse_419 (k := 3) rfl rfl (by decide) rfl ?_
            refine uu_goto (tgt := 13) dX4_parse_422 (by decide) ?_
            refine uu_lv [3, 1, 0] (lv' := [(0, .ref (B + 6)), (4, .int r36.2), (5, .int (x5 + 1))]) rfl ?_
            exact hK13 r36.2 (x5 + 1) _ _ h
          replace h := uu_neg c116_9 h
          by_cases c116_10 : v7 = 10
          · replace h := uu_pos c116_10 h
            refine uu_tabE (tgt := 342) (off := 226) (v := 10) dX4_parse_116 c116_10 (by decide) (by decide) rfl (by decide) ?_
            refine uu_aload_n dX4_parse_342 rfl (List.mem_of_getElem? (i := 1) rfl) ?_
            refine uu_iload dX4_parse_343 (List.mem_of_getElem? (i := 0) rfl) ?_
            obtain ⟨r38, e39, h⟩ := uu_ob h
            refine uu_cv (d1 := 7) (k := 6) (ci := 4) (T := TX4) (N := 9) (As := [.int v5]) (st := []) (st' := [.int r38.2]) (xc_X4_takeString uk un  e39) so_6.is (by decide) rfl kX4_takeString lX4_90 sX4_takeString (by decide) (Nat.le_of_ble_eq_true rfl) dX4_parse_345 rfl ?_
            refine uu_istore dX4_parse_348 (by decide) rfl ?_
            refine uu_goto (tgt := 419) dX4_parse_350 (by decide) ?_
            refine uu_iinc (v := x5 + 1) dX4_parse_419 (k := 3) rfl rfl (by decide) rfl ?_
            refine uu_goto (tgt := 13) dX4_parse_422 (by decide) ?_
            refine uu_lv [3, 1, 0] (lv' := [(0, .ref (B + 6)), (4, .int r38.2), (5, .int (x5 + 1))]) rfl ?_
            exact hK13 r38.2 (x5 + 1) _ _ h
          replace h := uu_neg c116_10 h
          by_cases c116_11 : v7 = 11
          · replace h := uu_pos c116_11 h
            refine uu_tabE (tgt := 353) (off := 237) (v := 11) dX4_parse_116 c116_11 (by decide) (by decide) rfl (by decide) ?_
            refine uu_aload_n dX4_parse_353 rfl (List.mem_of_getElem? (i := 1) rfl) ?_
            refine uu_geta (ci := 4) (N := 9) fX4_10 (by decide) so_6.is (by decide) (c := 7) (by decide) dX4_parse_354 ?_
            refine uu_bipush (v := 91) dX4_parse_357 (by decide) ?_
            obtain ⟨v40, e41, h⟩ := uu_ob h
            refine uu_cv (d1 := 0) (k := 7) (ci := 2) (T := TX2) (N := 9) (As := [.int 91]) (st := []) (st' := [.int (bI v40)]) (xc_X2_isSign uk  e41) so_7.is (by decide) rfl kX2_isSign lX4_61 sX2_isSign (by decide) (Nat.le_of_ble_eq_true rfl) dX4_parse_359 rfl ?_
            refine uu_ifb_eq (tgt := 374) dX4_parse_362 (by decide) (fun c42 => ?_) (fun c42 => ?_)
            · replace h := uu_neg c42 h
              refine uu_aload_n dX4_parse_374 rfl (List.mem_of_getElem? (i := 1) rfl) ?_
              refine uu_iload dX4_parse_375 (List.mem_of_getElem? (i := 0) rfl) ?_
              obtain ⟨r43, e44, h⟩ := uu_ob h
              refine uu_cv (d1 := 7) (k := 6) (ci := 4) (T := TX4) (N := 9) (As := [.int v5]) (st := []) (st' := [.int r43.2]) (xc_X4_takeString uk un  e44) so_6.is (by decide) rfl kX4_takeString lX4_90 sX4_takeString (by decide) (Nat.le_of_ble_eq_true rfl) dX4_parse_377 rfl ?_
              refine uu_istore dX4_parse_380 (by decide) rfl ?_
              refine uu_goto (tgt := 419) dX4_parse_382 (by decide) ?_
              refine uu_iinc (v := x5 + 1) dX4_parse_419 (k := 3) rfl rfl (by decide) rfl ?_
              refine uu_goto (tgt := 13) dX4_parse_422 (by decide) ?_
              refine uu_lv [3, 1, 0] (lv' := [(0, .ref (B + 6)), (4, .int r43.2), (5, .int (x5 + 1))]) rfl ?_
              exact hK13 r43.2 (x5 + 1) _ _ h
            · replace h := uu_pos c42 h
              refine uu_aload_n dX4_parse_365 rfl (List.mem_of_getElem? (i := 1) rfl) ?_
              refine uu_iload dX4_parse_366 (List.mem_of_getElem? (i := 0) rfl) ?_
              obtain ⟨r45, e46, h⟩ := uu_ob h
              refine uu_cv (d1 := 1) (k := 6) (ci := 4) (T := TX4) (N := 9) (As := [.int v5]) (st := []) (st' := [.int r45.2]) (xc_X4_openList uk  e46) so_6.is (by decide) rfl kX4_openList lX4_93 sX4_openList (by decide) (Nat.le_of_ble_eq_true rfl) dX4_parse_368 rfl ?_
              refine uu_goto (tgt := 380) dX4_parse_371 (by decide) ?_
              refine uu_istore dX4_parse_380 (by decide) rfl ?_
              refine uu_goto (tgt := 419) dX4_parse_382 (by decide) ?_
              refine uu_iinc (v := x5 + 1) dX4_parse_419 (k := 3) rfl rfl (by decide) rfl ?_
              refine uu_goto (tgt := 13) dX4_parse_422 (by decide) ?_
              refine uu_lv [3, 1, 0] (lv' := [(0, .ref (B + 6)), (4, .int r45.2), (5, .int (x5 + 1))]) rfl ?_
              exact hK13 r45.2 (x5 + 1) _ _ h
          replace h := uu_neg c116_11 h
          by_cases c116_12 : v7 = 12
          · replace h := uu_pos c116_12 h
            refine uu_tabE (tgt := 385) (off := 269) (v := 12) dX4_parse_116 c116_12 (by decide) (by decide) rfl (by decide) ?_
            refine uu_aload_n dX4_parse_385 rfl (List.mem_of_getElem? (i := 1) rfl) ?_
            refine uu_iload dX4_parse_386 (List.mem_of_getElem? (i := 0) rfl) ?_
            obtain ⟨r47, e48, h⟩ := uu_ob h
            refine uu_cv (d1 := 1) (k := 6) (ci := 4) (T := TX4) (N := 9) (As := [.int v5]) (st := []) (st' := [.int r47.2]) (xc_X4_moreStrings uk  e48) so_6.is (by decide) rfl kX4_moreStrings lX4_96 sX4_moreStrings (by decide) (Nat.le_of_ble_eq_true rfl) dX4_parse_388 rfl ?_
            refine uu_istore dX4_parse_391 (by decide) rfl ?_
            refine uu_goto (tgt := 419) dX4_parse_393 (by decide) ?_
            refine uu_iinc (v := x5 + 1) dX4_parse_419 (k := 3) rfl rfl (by decide) rfl ?_
            refine uu_goto (tgt := 13) dX4_parse_422 (by decide) ?_
            refine uu_lv [3, 1, 0] (lv' := [(0, .ref (B + 6)), (4, .int r47.2), (5, .int (x5 + 1))]) rfl ?_
            exact hK13 r47.2 (x5 + 1) _ _ h
          replace h := uu_neg c116_12 h
          have cx116 : (v7).toInt < 0 ∨ 12 < (v7).toInt := by
            refine Decidable.byContradiction fun q => ?_
            rcases (show (v7).toInt = 0 ∨ (v7).toInt = 1 ∨ (v7).toInt = 2 ∨ (v7).toInt = 3 ∨ (v7).toInt = 4 ∨ (v7).toInt = 5 ∨ (v7).toInt = 6 ∨ (v7).toInt = 7 ∨ (v7).toInt = 8 ∨ (v7).toInt = 9 ∨ (v7).toInt = 10 ∨ (v7).toInt = 11 ∨ (v7).toInt = 12 by omega) with q | q | q | q | q | q | q | q | q | q | q | q | q
            · exact c116_0 (sw_eq q (by decide))
            · exact c116_1 (sw_eq q (by decide))
            · exact c116_2 (sw_eq q (by decide))
            · exact c116_3 (sw_eq q (by decide))
            · exact c116_4 (sw_eq q (by decide))
            · exact c116_5 (sw_eq q (by decide))
            · exact c116_6 (sw_eq q (by decide))
            · exact c116_7 (sw_eq q (by decide))
            · exact c116_8 (sw_eq q (by decide))
            · exact c116_9 (sw_eq q (by decide))
            · exact c116_10 (sw_eq q (by decide))
            · exact c116_11 (sw_eq q (by decide))
            · exact c116_12 (sw_eq q (by decide))
          refine uu_tableOut (tgt := 396) dX4_parse_116 cx116 (by decide) ?_
          refine uu_aload_n dX4_parse_396 rfl (List.mem_of_getElem? (i := 1) rfl) ?_
          refine uu_geta (ci := 4) (N := 9) fX4_10 (by decide) so_6.is (by decide) (c := 7) (by decide) dX4_parse_397 ?_
          refine uu_iload dX4_parse_400 (List.mem_of_getElem? (i := 0) rfl) ?_
          obtain ⟨v49, e50, h⟩ := uu_ob h
          refine uu_cv (d1 := 0) (k := 7) (ci := 2) (T := TX2) (N := 9) (As := [.int v5]) (st := []) (st' := [.int (bI v49)]) (xc_X2_isSign uk  e50) so_7.is (by decide) rfl kX2_isSign lX4_61 sX2_isSign (by decide) (Nat.le_of_ble_eq_true rfl) dX4_parse_402 rfl ?_
          refine uu_ifb_eq (tgt := 416) dX4_parse_405 (by decide) (fun c51 => ?_) (fun c51 => ?_)
          · replace h := uu_neg c51 h
            refine uu_iconst (v := 0) dX4_parse_416 (by decide) ?_
            refine uu_istore dX4_parse_417 (by decide) rfl ?_
            refine uu_iinc (v := x5 + 1) dX4_parse_419 (k := 3) rfl rfl (by decide) rfl ?_
            refine uu_goto (tgt := 13) dX4_parse_422 (by decide) ?_
            refine uu_lv [3, 1, 0] (lv' := [(0, .ref (B + 6)), (4, .int 0), (5, .int (x5 + 1))]) rfl ?_
            exact hK13 0 (x5 + 1) _ _ h
          · replace h := uu_pos c51 h
            refine uu_aload_n dX4_parse_408 rfl (List.mem_of_getElem? (i := 1) rfl) ?_
            refine uu_iconst (v := 1) dX4_parse_409 (by decide) ?_
            obtain ⟨r52, e53, h⟩ := uu_ob h
            refine uu_cv (d1 := 0) (k := 6) (ci := 4) (T := TX4) (N := 9) (As := [.int 1]) (st := []) (st' := [.int r52.2]) (xc_X4_pop uk  e53) so_6.is (by decide) rfl kX4_pop lX4_84 sX4_pop (by decide) (Nat.le_of_ble_eq_true rfl) dX4_parse_410 rfl ?_
            refine uu_goto (tgt := 417) dX4_parse_413 (by decide) ?_
            refine uu_istore dX4_parse_417 (by decide) rfl ?_
            refine uu_iinc (v := x5 + 1) dX4_parse_419 (k := 3) rfl rfl (by decide) rfl ?_
            refine uu_goto (tgt := 13) dX4_parse_422 (by decide) ?_
            refine uu_lv [3, 1, 0] (lv' := [(0, .ref (B + 6)), (4, .int r52.2), (5, .int (x5 + 1))]) rfl ?_
            exact hK13 r52.2 (x5 + 1) _ _ h
        · replace h := uu_neg c4 h
          refine uu_lv [0] (lv' := [(0, .ref (B + 6))]) rfl ?_
          exact xb_X4_parse_84 uk un  h
def fb_X4_parse_33 (K13 : Int32 → Int32 → uS → Option (uS × Int32)) (x4 : Int32) (x5 : Int32) (s : uS) : Option (uS × Int32) := if x4 = 1 then ((fn_X2_next s).bind fun s2 => fb_X4_parse_46 K13 x5 s2) else (fb_X4_parse_46 K13 x5 s)
set_option maxRecDepth 100000 in
set_option maxHeartbeats 4000000 in
theorem xb_X4_parse_33 {l : Launch} {D : va_G} {A : Nat → ClassId} {B : Nat} {Z : State → Heap → Prop} {vF : Value} (uk : uK B Z vF) (un : uX A B Z) {K13 : Int32 → Int32 → uS → Option (uS × Int32)} (hK13 : ∀ (x4 : Int32) (x5 : Int32)  (s : uS) (r : (uS × Int32)), K13 x4 x5 s = some r → GU l D A B Z mX4_parse 8 (r.1, some (.int r.2)) s 13 [(0, .ref (B + 6)), (4, .int x4), (5, .int x5)] []) {x4 : Int32} {x5 : Int32} {s : uS} {r : (uS × Int32)}  (h : fb_X4_parse_33 K13 x4 x5 s = some r) : GU l D A B Z mX4_parse 8 (r.1, some (.int r.2)) s 33 [(0, .ref (B + 6)), (4, .int x4), (5, .int x5)] [] := by
  unfold fb_X4_parse_33 at h
  refine uu_iload dX4_parse_33 (List.mem_of_getElem? (i := 1) rfl) ?_
  refine uu_iconst (v := 1) dX4_parse_35 (by decide) ?_
  refine uu_icmp_ne (tgt := 46) dX4_parse_36 (by decide) (fun c1 => ?_) (fun c1 => ?_)
  · replace h := uu_neg c1 h
    refine uu_lv [0, 2] (lv' := [(0, .ref (B + 6)), (5, .int x5)]) rfl ?_
    exact xb_X4_parse_46 uk un hK13 h
  · replace h := uu_pos c1 h
    refine uu_aload_n dX4_parse_39 rfl (List.mem_of_getElem? (i := 0) rfl) ?_
    refine uu_geta (ci := 4) (N := 9) fX4_10 (by decide) so_6.is (by decide) (c := 7) (by decide) dX4_parse_40 ?_
    obtain ⟨s2, e3, h⟩ := uu_ob h
    refine uu_cv (d1 := 6) (k := 7) (ci := 2) (T := TX2) (N := 9) (As := []) (st := []) (st' := []) (xc_X2_next uk un  e3) so_7.is (by decide) rfl kX2_next lX4_34 sX2_next (by decide) (Nat.le_of_ble_eq_true rfl) dX4_parse_43 rfl ?_
    refine uu_lv [0, 2] (lv' := [(0, .ref (B + 6)), (5, .int x5)]) rfl ?_
    exact xb_X4_parse_46 uk un hK13 h
def fb_X4_parse_13 (K13 : Int32 → Int32 → uS → Option (uS × Int32)) (x4 : Int32) (x5 : Int32) (s : uS) : Option (uS × Int32) := if (20000 : Int32) ≤ x5 then (fb_X4_parse_425 x4 s) else (if x4 = 2 then (fb_X4_parse_33 K13 x4 x5 s) else (if x4 = 1 then (fb_X4_parse_33 K13 x4 x5 s) else (fb_X4_parse_425 x4 s)))
set_option maxRecDepth 100000 in
set_option maxHeartbeats 4000000 in
theorem xb_X4_parse_13 {l : Launch} {D : va_G} {A : Nat → ClassId} {B : Nat} {Z : State → Heap → Prop} {vF : Value} (uk : uK B Z vF) (un : uX A B Z) {K13 : Int32 → Int32 → uS → Option (uS × Int32)} (hK13 : ∀ (x4 : Int32) (x5 : Int32)  (s : uS) (r : (uS × Int32)), K13 x4 x5 s = some r → GU l D A B Z mX4_parse 8 (r.1, some (.int r.2)) s 13 [(0, .ref (B + 6)), (4, .int x4), (5, .int x5)] []) {x4 : Int32} {x5 : Int32} {s : uS} {r : (uS × Int32)}  (h : fb_X4_parse_13 K13 x4 x5 s = some r) : GU l D A B Z mX4_parse 8 (r.1, some (.int r.2)) s 13 [(0, .ref (B + 6)), (4, .int x4), (5, .int x5)] [] := by
  unfold fb_X4_parse_13 at h
  refine uu_iload dX4_parse_13 (List.mem_of_getElem? (i := 2) rfl) ?_
  refine uu_sipush (v := 20000) dX4_parse_15 (by decide) ?_
  refine uu_icmp_ge (tgt := 425) dX4_parse_18 (by decide) (fun c1 => ?_) (fun c1 => ?_)
  · replace h := uu_pos c1 h
    refine uu_lv [0, 1] (lv' := [(0, .ref (B + 6)), (4, .int x4)]) rfl ?_
    exact xb_X4_parse_425 uk un  h
  · replace h := uu_neg c1 h
    refine uu_iload dX4_parse_21 (List.mem_of_getElem? (i := 1) rfl) ?_
    refine uu_iconst (v := 2) dX4_parse_23 (by decide) ?_
    refine uu_icmp_eq (tgt := 33) dX4_parse_24 (by decide) (fun c2 => ?_) (fun c2 => ?_)
    · replace h := uu_pos c2 h
      exact xb_X4_parse_33 uk un hK13 h
    · replace h := uu_neg c2 h
      refine uu_iload dX4_parse_27 (List.mem_of_getElem? (i := 1) rfl) ?_
      refine uu_iconst (v := 1) dX4_parse_29 (by decide) ?_
      refine uu_icmp_ne (tgt := 425) dX4_parse_30 (by decide) (fun c3 => ?_) (fun c3 => ?_)
      · replace h := uu_neg c3 h
        refine uu_lv [0, 1] (lv' := [(0, .ref (B + 6)), (4, .int x4)]) rfl ?_
        exact xb_X4_parse_425 uk un  h
      · replace h := uu_pos c3 h
        exact xb_X4_parse_33 uk un hK13 h
def fn_X4_parse_13  : Nat → Int32 → Int32 → uS → Option (uS × Int32)
  | 0 => fun _ _ _ => none
  | n + 1 => fb_X4_parse_13 (fn_X4_parse_13  n)
set_option maxRecDepth 100000 in
set_option maxHeartbeats 4000000 in
theorem xn_X4_parse_13 {l : Launch} {D : va_G} {A : Nat → ClassId} {B : Nat} {Z : State → Heap → Prop} {vF : Value} (uk : uK B Z vF) (un : uX A B Z)   : ∀ (n : Nat) (x4 : Int32) (x5 : Int32)  (s : uS) (r : (uS × Int32)), fn_X4_parse_13  n x4 x5 s = some r → GU l D A B Z mX4_parse 8 (r.1, some (.int r.2)) s 13 [(0, .ref (B + 6)), (4, .int x4), (5, .int x5)] [] := by
  intro n
  induction n with
  | zero => intro x4 x5 s r h
            cases h
  | succ n ih => intro x4 x5 s r h
                 exact xb_X4_parse_13 uk un ih  h
def fn_X4_parse (k1 : Nat) (x2 : Int32) (x3 : Int32) (s : uS) : Option (uS × Int32) := (fn_X4_open k1 x2 x3 s).bind fun s1 => fn_X4_parse_13 uFu 1 0 s1
set_option maxRecDepth 100000 in
set_option maxHeartbeats 4000000 in
theorem xc_X4_parse {l : Launch} {D : va_G} {A : Nat → ClassId} {B : Nat} {Z : State → Heap → Prop} {vF : Value} (uk : uK B Z vF) (un : uX A B Z) {k1 : Nat} {x2 : Int32} {x3 : Int32} {s : uS} {r : (uS × Int32)}  (h : fn_X4_parse k1 x2 x3 s = some r) : CU l D A B Z 8 mX4_parse s [.ref (B + 6), .ref (B + k1), .int x2, .int x3] (r.1, some (.int r.2)) := by
  unfold fn_X4_parse at h
  refine cu_of rfl uk.1.1 (Nat.le_of_ble_eq_true rfl) ?_
  show GU _ _ _ _ _ _ _ _ _ 0 [(0, .ref (B + 6)), (1, .ref (B + k1)), (2, .int x2), (3, .int x3)] []
  refine uu_aload_n dX4_parse_0 rfl (List.mem_of_getElem? (i := 0) rfl) ?_
  refine uu_aload_n dX4_parse_1 rfl (List.mem_of_getElem? (i := 1) rfl) ?_
  refine uu_iload_n dX4_parse_2 rfl (List.mem_of_getElem? (i := 2) rfl) ?_
  refine uu_iload_n dX4_parse_3 rfl (List.mem_of_getElem? (i := 3) rfl) ?_
  obtain ⟨s1, e2, h⟩ := uu_ob h
  refine uu_cv (d1 := 3) (k := 6) (ci := 4) (T := TX4) (N := 9) (As := [.ref (B + k1), .int x2, .int x3]) (st := []) (st' := []) (xc_X4_open uk un  e2) so_6.is (by decide) rfl kX4_open lX4_30 sX4_open (by decide) (Nat.le_of_ble_eq_true rfl) dX4_parse_4 rfl ?_
  refine uu_iconst (v := 1) dX4_parse_7 (by decide) ?_
  refine uu_istore dX4_parse_8 (by decide) rfl ?_
  refine uu_iconst (v := 0) dX4_parse_10 (by decide) ?_
  refine uu_istore dX4_parse_11 (by decide) rfl ?_
  refine uu_lv [2, 1, 0] (lv' := [(0, .ref (B + 6)), (4, .int 1), (5, .int 0)]) rfl ?_
  exact xn_X4_parse_13 uk un  _ _ _ _ _ h
abbrev mX6_valueStart : hM := (yX6_valueStart, cX6_valueStart, 6, (some (.int)))
theorem dX6_valueStart_155 : decode cX6_valueStart 155 = .ok (.aload_n 0, 1) := by decide +kernel
theorem dX6_valueStart_156 : decode cX6_valueStart 156 = .ok (.getfield 14, 3) := by decide +kernel
theorem dX6_valueStart_159 : decode cX6_valueStart 159 = .ok (.aload_n 3, 1) := by decide +kernel
theorem dX6_valueStart_160 : decode cX6_valueStart 160 = .ok (.iload_n 1, 1) := by decide +kernel
theorem dX6_valueStart_161 : decode cX6_valueStart 161 = .ok (.iload 4, 2) := by decide +kernel
theorem lX6_58 : Cond.methodLink RX6 58 mX9_putRange.1 ∈ lw_g := h_t4 139 rfl rfl
theorem dX6_valueStart_163 : decode cX6_valueStart 163 = .ok (.invokevirtual 58, 3) := by decide +kernel
theorem dX6_valueStart_166 : decode cX6_valueStart 166 = .ok (.aload_n 0, 1) := by decide +kernel
theorem dX6_valueStart_167 : decode cX6_valueStart 167 = .ok (.getfield 14, 3) := by decide +kernel
theorem dX6_valueStart_170 : decode cX6_valueStart 170 = .ok (.invokevirtual 72, 3) := by decide +kernel
theorem dX6_valueStart_173 : decode cX6_valueStart 173 = .ok (.iload 5, 2) := by decide +kernel
theorem dX6_valueStart_175 : decode cX6_valueStart 175 = .ok (.iconst 1, 1) := by decide +kernel
theorem dX6_valueStart_176 : decode cX6_valueStart 176 = .ok (.iadd, 1) := by decide +kernel
theorem dX6_valueStart_177 : decode cX6_valueStart 177 = .ok (.ireturn, 1) := by decide +kernel
theorem dX6_valueStart_106 : decode cX6_valueStart 106 = .ok (.iload 4, 2) := by decide +kernel
theorem dX6_valueStart_108 : decode cX6_valueStart 108 = .ok (.iload_n 1, 1) := by decide +kernel
theorem dX6_valueStart_109 : decode cX6_valueStart 109 = .ok (.if_icmp .eq 27, 3) := by decide +kernel
theorem dX6_valueStart_136 : decode cX6_valueStart 136 = .ok (.iconst (-1), 1) := by decide +kernel
theorem dX6_valueStart_137 : decode cX6_valueStart 137 = .ok (.ireturn, 1) := by decide +kernel
theorem dX6_valueStart_112 : decode cX6_valueStart 112 = .ok (.iload 4, 2) := by decide +kernel
theorem dX6_valueStart_114 : decode cX6_valueStart 114 = .ok (.iload_n 1, 1) := by decide +kernel
theorem dX6_valueStart_115 : decode cX6_valueStart 115 = .ok (.isub, 1) := by decide +kernel
theorem dX6_valueStart_116 : decode cX6_valueStart 116 = .ok (.bipush 60, 2) := by decide +kernel
theorem dX6_valueStart_118 : decode cX6_valueStart 118 = .ok (.if_icmp .gt 18, 3) := by decide +kernel
theorem dX6_valueStart_121 : decode cX6_valueStart 121 = .ok (.iload 5, 2) := by decide +kernel
theorem dX6_valueStart_123 : decode cX6_valueStart 123 = .ok (.iload_n 2, 1) := by decide +kernel
theorem dX6_valueStart_124 : decode cX6_valueStart 124 = .ok (.if_icmp .ge 12, 3) := by decide +kernel
theorem dX6_valueStart_127 : decode cX6_valueStart 127 = .ok (.aload_n 3, 1) := by decide +kernel
theorem dX6_valueStart_128 : decode cX6_valueStart 128 = .ok (.iload 5, 2) := by decide +kernel
theorem dX6_valueStart_130 : decode cX6_valueStart 130 = .ok (.baload, 1) := by decide +kernel
theorem dX6_valueStart_131 : decode cX6_valueStart 131 = .ok (.bipush 58, 2) := by decide +kernel
theorem dX6_valueStart_133 : decode cX6_valueStart 133 = .ok (.if_icmp .eq 5, 3) := by decide +kernel
theorem dX6_valueStart_138 : decode cX6_valueStart 138 = .ok (.aload_n 0, 1) := by decide +kernel
theorem dX6_valueStart_139 : decode cX6_valueStart 139 = .ok (.getfield 14, 3) := by decide +kernel
theorem dX6_valueStart_142 : decode cX6_valueStart 142 = .ok (.getfield 62, 3) := by decide +kernel
theorem dX6_valueStart_145 : decode cX6_valueStart 145 = .ok (.ifCond .le 10, 3) := by decide +kernel
theorem dX6_valueStart_148 : decode cX6_valueStart 148 = .ok (.aload_n 0, 1) := by decide +kernel
theorem dX6_valueStart_149 : decode cX6_valueStart 149 = .ok (.getfield 18, 3) := by decide +kernel
theorem kX9_closeTrimmed : h_ml mX9_closeTrimmed 0 := ⟨h_t4 136 rfl rfl, h_t1 4 rfl rfl, ⟨by decide, by decide, by decide +kernel⟩, by decide⟩
theorem lX6_65 : Cond.methodLink RX6 65 mX9_closeTrimmed.1 ∈ lw_g := h_t4 133 rfl rfl
theorem sX9_closeTrimmed : Cond.instanceMethod mX9_closeTrimmed.1 ∈ lw_g ∧ Cond.selects mX9_closeTrimmed.1.cls mX9_closeTrimmed.1 mX9_closeTrimmed.1 ∈ lw_g := ⟨h_t4 134 rfl rfl, h_t4 135 rfl rfl⟩
theorem dX6_valueStart_152 : decode cX6_valueStart 152 = .ok (.invokevirtual 65, 3) := by decide +kernel
theorem dX6_valueStart_84 : decode cX6_valueStart 84 = .ok (.iload 5, 2) := by decide +kernel
theorem dX6_valueStart_86 : decode cX6_valueStart 86 = .ok (.iload_n 2, 1) := by decide +kernel
theorem dX6_valueStart_87 : decode cX6_valueStart 87 = .ok (.if_icmp .ge 19, 3) := by decide +kernel
theorem dX6_valueStart_90 : decode cX6_valueStart 90 = .ok (.aload_n 3, 1) := by decide +kernel
theorem dX6_valueStart_91 : decode cX6_valueStart 91 = .ok (.iload 5, 2) := by decide +kernel
theorem dX6_valueStart_93 : decode cX6_valueStart 93 = .ok (.baload, 1) := by decide +kernel
theorem lX6_68 : Cond.methodLink RX6 68 mX9_isBlank.1 ∈ lw_g := h_t4 130 rfl rfl
theorem dX6_valueStart_94 : decode cX6_valueStart 94 = .ok (.invokestatic 68, 3) := by decide +kernel
theorem dX6_valueStart_97 : decode cX6_valueStart 97 = .ok (.ifCond .eq 9, 3) := by decide +kernel
theorem dX6_valueStart_100 : decode cX6_valueStart 100 = .ok (.iinc 5 1, 3) := by decide +kernel
theorem dX6_valueStart_103 : decode cX6_valueStart 103 = .ok (.goto (-19), 3) := by decide +kernel
theorem dX6_valueStart_41 : decode cX6_valueStart 41 = .ok (.iload 4, 2) := by decide +kernel
theorem dX6_valueStart_43 : decode cX6_valueStart 43 = .ok (.iload_n 2, 1) := by decide +kernel
theorem dX6_valueStart_44 : decode cX6_valueStart 44 = .ok (.if_icmp .ge 36, 3) := by decide +kernel
theorem dX6_valueStart_80 : decode cX6_valueStart 80 = .ok (.iload 4, 2) := by decide +kernel
theorem dX6_valueStart_82 : decode cX6_valueStart 82 = .ok (.istore 5, 2) := by decide +kernel
theorem dX6_valueStart_47 : decode cX6_valueStart 47 = .ok (.aload_n 3, 1) := by decide +kernel
theorem dX6_valueStart_48 : decode cX6_valueStart 48 = .ok (.iload 4, 2) := by decide +kernel
theorem dX6_valueStart_50 : decode cX6_valueStart 50 = .ok (.baload, 1) := by decide +kernel
theorem dX6_valueStart_51 : decode cX6_valueStart 51 = .ok (.bipush 32, 2) := by decide +kernel
theorem dX6_valueStart_53 : decode cX6_valueStart 53 = .ok (.if_icmp .le 27, 3) := by decide +kernel
theorem dX6_valueStart_56 : decode cX6_valueStart 56 = .ok (.aload_n 3, 1) := by decide +kernel
theorem dX6_valueStart_57 : decode cX6_valueStart 57 = .ok (.iload 4, 2) := by decide +kernel
theorem dX6_valueStart_59 : decode cX6_valueStart 59 = .ok (.baload, 1) := by decide +kernel
theorem dX6_valueStart_60 : decode cX6_valueStart 60 = .ok (.bipush 127, 2) := by decide +kernel
theorem dX6_valueStart_62 : decode cX6_valueStart 62 = .ok (.if_icmp .ge 18, 3) := by decide +kernel
theorem dX6_valueStart_65 : decode cX6_valueStart 65 = .ok (.aload_n 3, 1) := by decide +kernel
theorem dX6_valueStart_66 : decode cX6_valueStart 66 = .ok (.iload 4, 2) := by decide +kernel
theorem dX6_valueStart_68 : decode cX6_valueStart 68 = .ok (.baload, 1) := by decide +kernel
theorem dX6_valueStart_69 : decode cX6_valueStart 69 = .ok (.bipush 58, 2) := by decide +kernel
theorem dX6_valueStart_71 : decode cX6_valueStart 71 = .ok (.if_icmp .eq 9, 3) := by decide +kernel
theorem dX6_valueStart_74 : decode cX6_valueStart 74 = .ok (.iinc 4 1, 3) := by decide +kernel
theorem dX6_valueStart_77 : decode cX6_valueStart 77 = .ok (.goto (-36), 3) := by decide +kernel
theorem dX6_valueStart_0 : decode cX6_valueStart 0 = .ok (.aload_n 0, 1) := by decide +kernel
theorem dX6_valueStart_1 : decode cX6_valueStart 1 = .ok (.getfield 27, 3) := by decide +kernel
theorem dX6_valueStart_4 : decode cX6_valueStart 4 = .ok (.getfield 54, 3) := by decide +kernel
theorem dX6_valueStart_7 : decode cX6_valueStart 7 = .ok (.astore_n 3, 1) := by decide +kernel
theorem dX6_valueStart_8 : decode cX6_valueStart 8 = .ok (.iload_n 1, 1) := by decide +kernel
theorem dX6_valueStart_9 : decode cX6_valueStart 9 = .ok (.iload_n 2, 1) := by decide +kernel
theorem dX6_valueStart_10 : decode cX6_valueStart 10 = .ok (.if_icmp .ge 28, 3) := by decide +kernel
theorem dX6_valueStart_38 : decode cX6_valueStart 38 = .ok (.iload_n 1, 1) := by decide +kernel
theorem dX6_valueStart_39 : decode cX6_valueStart 39 = .ok (.istore 4, 2) := by decide +kernel
theorem dX6_valueStart_13 : decode cX6_valueStart 13 = .ok (.aload_n 3, 1) := by decide +kernel
theorem dX6_valueStart_14 : decode cX6_valueStart 14 = .ok (.iload_n 1, 1) := by decide +kernel
theorem dX6_valueStart_15 : decode cX6_valueStart 15 = .ok (.baload, 1) := by decide +kernel
theorem dX6_valueStart_16 : decode cX6_valueStart 16 = .ok (.invokestatic 68, 3) := by decide +kernel
theorem dX6_valueStart_19 : decode cX6_valueStart 19 = .ok (.ifCond .eq 19, 3) := by decide +kernel
theorem dX6_valueStart_22 : decode cX6_valueStart 22 = .ok (.aload_n 0, 1) := by decide +kernel
theorem dX6_valueStart_23 : decode cX6_valueStart 23 = .ok (.getfield 14, 3) := by decide +kernel
theorem dX6_valueStart_26 : decode cX6_valueStart 26 = .ok (.getfield 62, 3) := by decide +kernel
theorem dX6_valueStart_29 : decode cX6_valueStart 29 = .ok (.ifCond .le 7, 3) := by decide +kernel
theorem dX6_valueStart_36 : decode cX6_valueStart 36 = .ok (.iconst (-1), 1) := by decide +kernel
theorem dX6_valueStart_37 : decode cX6_valueStart 37 = .ok (.ireturn, 1) := by decide +kernel
theorem dX6_valueStart_32 : decode cX6_valueStart 32 = .ok (.iload_n 1, 1) := by decide +kernel
theorem dX6_valueStart_33 : decode cX6_valueStart 33 = .ok (.goto 4, 3) := by decide +kernel
def fb_X6_valueStart_155  (x1 : Int32) (x4 : Int32) (x5 : Int32) (s : uS) : Option (uS × Int32) := (fn_X9_putRange 1054 1051 x1 x4 s).bind fun s1 => (fn_X9_close 1054 s1).bind fun s3 => some (s3, x5 + 1)
set_option maxRecDepth 100000 in
set_option maxHeartbeats 4000000 in
theorem xb_X6_valueStart_155 {l : Launch} {D : va_G} {A : Nat → ClassId} {B : Nat} {Z : State → Heap → Prop} {vF : Value} (uk : uK B Z vF) (un : uX A B Z)   {x1 : Int32} {x4 : Int32} {x5 : Int32} {s : uS} {r : (uS × Int32)}  (h : fb_X6_valueStart_155  x1 x4 x5 s = some r) : GU l D A B Z mX6_valueStart 2 (r.1, some (.int r.2)) s 155 [(0, .ref (B + 1053)), (1, .int x1), (3, .ref (B + 1051)), (4, .int x4), (5, .int x5)] [] := by
  unfold fb_X6_valueStart_155 at h
  refine uu_aload_n dX6_valueStart_155 rfl (List.mem_of_getElem? (i := 0) rfl) ?_
  refine uu_geta (ci := 6) (N := 6) fX6_14 (by decide) so_1053.is (by decide) (c := 1054) (by decide) dX6_valueStart_156 ?_
  refine uu_aload_n dX6_valueStart_159 rfl (List.mem_of_getElem? (i := 2) rfl) ?_
  refine uu_iload_n dX6_valueStart_160 rfl (List.mem_of_getElem? (i := 1) rfl) ?_
  refine uu_iload dX6_valueStart_161 (List.mem_of_getElem? (i := 3) rfl) ?_
  obtain ⟨s1, e2, h⟩ := uu_ob h
  refine uu_cv (d1 := 1) (k := 1054) (ci := 9) (T := TX9) (N := 6) (As := [.ref (B + 1051), .int x1, .int x4]) (st := []) (st' := []) (xc_X9_putRange uk un so_1054 e2) so_1054.is (by decide) rfl kX9_putRange lX6_58 sX9_putRange (by decide) (Nat.le_of_ble_eq_true rfl) dX6_valueStart_163 rfl ?_
  refine uu_aload_n dX6_valueStart_166 rfl (List.mem_of_getElem? (i := 0) rfl) ?_
  refine uu_geta (ci := 6) (N := 6) fX6_14 (by decide) so_1053.is (by decide) (c := 1054) (by decide) dX6_valueStart_167 ?_
  obtain ⟨s3, e4, h⟩ := uu_ob h
  refine uu_cv (d1 := 0) (k := 1054) (ci := 9) (T := TX9) (N := 6) (As := []) (st := []) (st' := []) (xc_X9_close uk so_1054 e4) so_1054.is (by decide) rfl kX9_close lX6_72 sX9_close (by decide) (Nat.le_of_ble_eq_true rfl) dX6_valueStart_170 rfl ?_
  refine uu_iload dX6_valueStart_173 (List.mem_of_getElem? (i := 4) rfl) ?_
  refine uu_iconst (v := 1) dX6_valueStart_175 (by decide) ?_
  refine uu_iadd dX6_valueStart_176 ?_
  have hr := Option.some.inj h
  subst hr
  exact uu_iret rfl dX6_valueStart_177
def fb_X6_valueStart_106  (x1 : Int32) (x2 : Int32) (x4 : Int32) (x5 : Int32) (s : uS) : Option (uS × Int32) := if x4 = x1 then (some (s, (-1 : Int32))) else (if (60 : Int32) < (x4 - x1) then (some (s, (-1 : Int32))) else (if x2 ≤ x5 then (some (s, (-1 : Int32))) else ((iget 21 s 1051 x5).bind fun v4 => if v4 = 58 then (if (s.I 1054 3) ≤ 0 then (fb_X6_valueStart_155 x1 x4 x5 s) else ((fn_X9_closeTrimmed 1058 s).bind fun s8 => fb_X6_valueStart_155 x1 x4 x5 s8)) else (some (s, (-1 : Int32))))))
set_option maxRecDepth 100000 in
set_option maxHeartbeats 4000000 in
theorem xb_X6_valueStart_106 {l : Launch} {D : va_G} {A : Nat → ClassId} {B : Nat} {Z : State → Heap → Prop} {vF : Value} (uk : uK B Z vF) (un : uX A B Z)   {x1 : Int32} {x2 : Int32} {x4 : Int32} {x5 : Int32} {s : uS} {r : (uS × Int32)}  (h : fb_X6_valueStart_106  x1 x2 x4 x5 s = some r) : GU l D A B Z mX6_valueStart 2 (r.1, some (.int r.2)) s 106 [(0, .ref (B + 1053)), (1, .int x1), (2, .int x2), (3, .ref (B + 1051)), (4, .int x4), (5, .int x5)] [] := by
  unfold fb_X6_valueStart_106 at h
  refine uu_iload dX6_valueStart_106 (List.mem_of_getElem? (i := 4) rfl) ?_
  refine uu_iload_n dX6_valueStart_108 rfl (List.mem_of_getElem? (i := 1) rfl) ?_
  refine uu_icmp_eq (tgt := 136) dX6_valueStart_109 (by decide) (fun c1 => ?_) (fun c1 => ?_)
  · replace h := uu_pos c1 h
    refine uu_iconst (v := -1) dX6_valueStart_136 (by decide) ?_
    have hr := Option.some.inj h
    subst hr
    exact uu_iret rfl dX6_valueStart_137
  · replace h := uu_neg c1 h
    refine uu_iload dX6_valueStart_112 (List.mem_of_getElem? (i := 4) rfl) ?_
    refine uu_iload_n dX6_valueStart_114 rfl (List.mem_of_getElem? (i := 1) rfl) ?_
    refine uu_isub dX6_valueStart_115 ?_
    refine uu_bipush (v := 60) dX6_valueStart_116 (by decide) ?_
    refine uu_icmp_gt (tgt := 136) dX6_valueStart_118 (by decide) (fun c2 => ?_) (fun c2 => ?_)
    · replace h := uu_pos c2 h
      refine uu_iconst (v := -1) dX6_valueStart_136 (by decide) ?_
      have hr := Option.some.inj h
      subst hr
      exact uu_iret rfl dX6_valueStart_137
    · replace h := uu_neg c2 h
      refine uu_iload dX6_valueStart_121 (List.mem_of_getElem? (i := 5) rfl) ?_
      refine uu_iload_n dX6_valueStart_123 rfl (List.mem_of_getElem? (i := 2) rfl) ?_
      refine uu_icmp_ge (tgt := 136) dX6_valueStart_124 (by decide) (fun c3 => ?_) (fun c3 => ?_)
      · replace h := uu_pos c3 h
        refine uu_iconst (v := -1) dX6_valueStart_136 (by decide) ?_
        have hr := Option.some.inj h
        subst hr
        exact uu_iret rfl dX6_valueStart_137
      · replace h := uu_neg c3 h
        refine uu_aload_n dX6_valueStart_127 rfl (List.mem_of_getElem? (i := 3) rfl) ?_
        refine uu_iload dX6_valueStart_128 (List.mem_of_getElem? (i := 5) rfl) ?_
        obtain ⟨v4, e5, h⟩ := uu_ob h
        refine uu_bald e5 dX6_valueStart_130 ?_
        refine uu_bipush (v := 58) dX6_valueStart_131 (by decide) ?_
        refine uu_icmp_eq (tgt := 138) dX6_valueStart_133 (by decide) (fun c6 => ?_) (fun c6 => ?_)
        · replace h := uu_pos c6 h
          refine uu_aload_n dX6_valueStart_138 rfl (List.mem_of_getElem? (i := 0) rfl) ?_
          refine uu_geta (ci := 6) (N := 6) fX6_14 (by decide) so_1053.is (by decide) (c := 1054) (by decide) dX6_valueStart_139 ?_
          refine uu_geti (ci := 9) (N := 6) fX6_62 (by decide) so_1054.is (by decide) (by decide) dX6_valueStart_142 ?_
          refine uu_if_le (tgt := 155) dX6_valueStart_145 (by decide) (fun c7 => ?_) (fun c7 => ?_)
          · replace h := uu_pos c7 h
            refine uu_lv [0, 1, 3, 4, 5] (lv' := [(0, .ref (B + 1053)), (1, .int x1), (3, .ref (B + 1051)), (4, .int x4), (5, .int x5)]) rfl ?_
            exact xb_X6_valueStart_155 uk un  h
          · replace h := uu_neg c7 h
            refine uu_aload_n dX6_valueStart_148 rfl (List.mem_of_getElem? (i := 0) rfl) ?_
            refine uu_geta (ci := 6) (N := 6) fX6_18 (by decide) so_1053.is (by decide) (c := 1058) (by decide) dX6_valueStart_149 ?_
            obtain ⟨s8, e9, h⟩ := uu_ob h
            refine uu_cv (d1 := 1) (k := 1058) (ci := 9) (T := TX9) (N := 6) (As := []) (st := []) (st' := []) (xc_X9_closeTrimmed uk so_1058 e9) so_1058.is (by decide) rfl kX9_closeTrimmed lX6_65 sX9_closeTrimmed (by decide) (Nat.le_of_ble_eq_true rfl) dX6_valueStart_152 rfl ?_
            refine uu_lv [0, 1, 3, 4, 5] (lv' := [(0, .ref (B + 1053)), (1, .int x1), (3, .ref (B + 1051)), (4, .int x4), (5, .int x5)]) rfl ?_
            exact xb_X6_valueStart_155 uk un  h
        · replace h := uu_neg c6 h
          refine uu_iconst (v := -1) dX6_valueStart_136 (by decide) ?_
          have hr := Option.some.inj h
          subst hr
          exact uu_iret rfl dX6_valueStart_137
def fb_X6_valueStart_84 (K84 : Int32 → Int32 → Int32 → Int32 → uS → Option (uS × Int32)) (x1 : Int32) (x2 : Int32) (x4 : Int32) (x5 : Int32) (s : uS) : Option (uS × Int32) := if x2 ≤ x5 then (fb_X6_valueStart_106 x1 x2 x4 x5 s) else ((iget 21 s 1051 x5).bind fun v2 => (fn_X9_isBlank v2 s).bind fun v4 => if v4 = true then (K84 x1 x2 x4 (x5 + 1) s) else (fb_X6_valueStart_106 x1 x2 x4 x5 s))
set_option maxRecDepth 100000 in
set_option maxHeartbeats 4000000 in
theorem xb_X6_valueStart_84 {l : Launch} {D : va_G} {A : Nat → ClassId} {B : Nat} {Z : State → Heap → Prop} {vF : Value} (uk : uK B Z vF) (un : uX A B Z) {K84 : Int32 → Int32 → Int32 → Int32 → uS → Option (uS × Int32)} (hK84 : ∀ (x1 : Int32) (x2 : Int32) (x4 : Int32) (x5 : Int32)  (s : uS) (r : (uS × Int32)), K84 x1 x2 x4 x5 s = some r → GU l D A B Z mX6_valueStart 2 (r.1, some (.int r.2)) s 84 [(0, .ref (B + 1053)), (1, .int x1), (2, .int x2), (3, .ref (B + 1051)), (4, .int x4), (5, .int x5)] []) {x1 : Int32} {x2 : Int32} {x4 : Int32} {x5 : Int32} {s : uS} {r : (uS × Int32)}  (h : fb_X6_valueStart_84 K84 x1 x2 x4 x5 s = some r) : GU l D A B Z mX6_valueStart 2 (r.1, some (.int r.2)) s 84 [(0, .ref (B + 1053)), (1, .int x1), (2, .int x2), (3, .ref (B + 1051)), (4, .int x4), (5, .int x5)] [] := by
  unfold fb_X6_valueStart_84 at h
  refine uu_iload dX6_valueStart_84 (List.mem_of_getElem? (i := 5) rfl) ?_
  refine uu_iload_n dX6_valueStart_86 rfl (List.mem_of_getElem? (i := 2) rfl) ?_
  refine uu_icmp_ge (tgt := 106) dX6_valueStart_87 (by decide) (fun c1 => ?_) (fun c1 => ?_)
  · replace h := uu_pos c1 h
    exact xb_X6_valueStart_106 uk un  h
  · replace h := uu_neg c1 h
    refine uu_aload_n dX6_valueStart_90 rfl (List.mem_of_getElem? (i := 3) rfl) ?_
    refine uu_iload dX6_valueStart_91 (List.mem_of_getElem? (i := 5) rfl) ?_
    obtain ⟨v2, e3, h⟩ := uu_ob h
    refine uu_bald e3 dX6_valueStart_93 ?_
    obtain ⟨v4, e5, h⟩ := uu_ob h
    refine uu_cs (d1 := 0) (As := [.int v2]) (st := []) (st' := [.int (bI v4)]) (xc_X9_isBlank uk  e5) kX9_isBlank lX6_68 sX9_isBlank (by decide) (Nat.le_of_ble_eq_true rfl) dX6_valueStart_94 rfl ?_
    refine uu_ifb_eq (tgt := 106) dX6_valueStart_97 (by decide) (fun c6 => ?_) (fun c6 => ?_)
    · replace h := uu_neg c6 h
      exact xb_X6_valueStart_106 uk un  h
    · replace h := uu_pos c6 h
      refine uu_iinc (v := x5 + 1) dX6_valueStart_100 (k := 5) rfl rfl (by decide) rfl ?_
      refine uu_goto (tgt := 84) dX6_valueStart_103 (by decide) ?_
      refine uu_lv [1, 2, 3, 4, 5, 0] (lv' := [(0, .ref (B + 1053)), (1, .int x1), (2, .int x2), (3, .ref (B + 1051)), (4, .int x4), (5, .int (x5 + 1))]) rfl ?_
      exact hK84 x1 x2 x4 (x5 + 1) _ _ h
def fn_X6_valueStart_84  : Nat → Int32 → Int32 → Int32 → Int32 → uS → Option (uS × Int32)
  | 0 => fun _ _ _ _ _ => none
  | n + 1 => fb_X6_valueStart_84 (fn_X6_valueStart_84  n)
set_option maxRecDepth 100000 in
set_option maxHeartbeats 4000000 in
theorem xn_X6_valueStart_84 {l : Launch} {D : va_G} {A : Nat → ClassId} {B : Nat} {Z : State → Heap → Prop} {vF : Value} (uk : uK B Z vF) (un : uX A B Z)   : ∀ (n : Nat) (x1 : Int32) (x2 : Int32) (x4 : Int32) (x5 : Int32)  (s : uS) (r : (uS × Int32)), fn_X6_valueStart_84  n x1 x2 x4 x5 s = some r → GU l D A B Z mX6_valueStart 2 (r.1, some (.int r.2)) s 84 [(0, .ref (B + 1053)), (1, .int x1), (2, .int x2), (3, .ref (B + 1051)), (4, .int x4), (5, .int x5)] [] := by
  intro n
  induction n with
  | zero => intro x1 x2 x4 x5 s r h
            cases h
  | succ n ih => intro x1 x2 x4 x5 s r h
                 exact xb_X6_valueStart_84 uk un ih  h
def fb_X6_valueStart_41 (K41 : Int32 → Int32 → Int32 → uS → Option (uS × Int32)) (x1 : Int32) (x2 : Int32) (x4 : Int32) (s : uS) : Option (uS × Int32) := if x2 ≤ x4 then (fn_X6_valueStart_84 uFu x1 x2 x4 x4 s) else ((iget 21 s 1051 x4).bind fun v2 => if v2 ≤ 32 then (fn_X6_valueStart_84 uFu x1 x2 x4 x4 s) else ((iget 21 s 1051 x4).bind fun v5 => if (127 : Int32) ≤ v5 then (fn_X6_valueStart_84 uFu x1 x2 x4 x4 s) else ((iget 21 s 1051 x4).bind fun v8 => if v8 = 58 then (fn_X6_valueStart_84 uFu x1 x2 x4 x4 s) else (K41 x1 x2 (x4 + 1) s))))
set_option maxRecDepth 100000 in
set_option maxHeartbeats 4000000 in
theorem xb_X6_valueStart_41 {l : Launch} {D : va_G} {A : Nat → ClassId} {B : Nat} {Z : State → Heap → Prop} {vF : Value} (uk : uK B Z vF) (un : uX A B Z) {K41 : Int32 → Int32 → Int32 → uS → Option (uS × Int32)} (hK41 : ∀ (x1 : Int32) (x2 : Int32) (x4 : Int32)  (s : uS) (r : (uS × Int32)), K41 x1 x2 x4 s = some r → GU l D A B Z mX6_valueStart 2 (r.1, some (.int r.2)) s 41 [(0, .ref (B + 1053)), (1, .int x1), (2, .int x2), (3, .ref (B + 1051)), (4, .int x4)] []) {x1 : Int32} {x2 : Int32} {x4 : Int32} {s : uS} {r : (uS × Int32)}  (h : fb_X6_valueStart_41 K41 x1 x2 x4 s = some r) : GU l D A B Z mX6_valueStart 2 (r.1, some (.int r.2)) s 41 [(0, .ref (B + 1053)), (1, .int x1), (2, .int x2), (3, .ref (B + 1051)), (4, .int x4)] [] := by
  unfold fb_X6_valueStart_41 at h
  refine uu_iload dX6_valueStart_41 (List.mem_of_getElem? (i := 4) rfl) ?_
  refine uu_iload_n dX6_valueStart_43 rfl (List.mem_of_getElem? (i := 2) rfl) ?_
  refine uu_icmp_ge (tgt := 80) dX6_valueStart_44 (by decide) (fun c1 => ?_) (fun c1 => ?_)
  · replace h := uu_pos c1 h
    refine uu_iload dX6_valueStart_80 (List.mem_of_getElem? (i := 4) rfl) ?_
    refine uu_istore dX6_valueStart_82 (by decide) rfl ?_
    refine uu_lv [1, 2, 3, 4, 5, 0] (lv' := [(0, .ref (B + 1053)), (1, .int x1), (2, .int x2), (3, .ref (B + 1051)), (4, .int x4), (5, .int x4)]) rfl ?_
    exact xn_X6_valueStart_84 uk un  _ _ _ _ _ _ _ h
  · replace h := uu_neg c1 h
    refine uu_aload_n dX6_valueStart_47 rfl (List.mem_of_getElem? (i := 3) rfl) ?_
    refine uu_iload dX6_valueStart_48 (List.mem_of_getElem? (i := 4) rfl) ?_
    obtain ⟨v2, e3, h⟩ := uu_ob h
    refine uu_bald e3 dX6_valueStart_50 ?_
    refine uu_bipush (v := 32) dX6_valueStart_51 (by decide) ?_
    refine uu_icmp_le (tgt := 80) dX6_valueStart_53 (by decide) (fun c4 => ?_) (fun c4 => ?_)
    · replace h := uu_pos c4 h
      refine uu_iload dX6_valueStart_80 (List.mem_of_getElem? (i := 4) rfl) ?_
      refine uu_istore dX6_valueStart_82 (by decide) rfl ?_
      refine uu_lv [1, 2, 3, 4, 5, 0] (lv' := [(0, .ref (B + 1053)), (1, .int x1), (2, .int x2), (3, .ref (B + 1051)), (4, .int x4), (5, .int x4)]) rfl ?_
      exact xn_X6_valueStart_84 uk un  _ _ _ _ _ _ _ h
    · replace h := uu_neg c4 h
      refine uu_aload_n dX6_valueStart_56 rfl (List.mem_of_getElem? (i := 3) rfl) ?_
      refine uu_iload dX6_valueStart_57 (List.mem_of_getElem? (i := 4) rfl) ?_
      obtain ⟨v5, e6, h⟩ := uu_ob h
      refine uu_bald e6 dX6_valueStart_59 ?_
      refine uu_bipush (v := 127) dX6_valueStart_60 (by decide) ?_
      refine uu_icmp_ge (tgt := 80) dX6_valueStart_62 (by decide) (fun c7 => ?_) (fun c7 => ?_)
      · replace h := uu_pos c7 h
        refine uu_iload dX6_valueStart_80 (List.mem_of_getElem? (i := 4) rfl) ?_
        refine uu_istore dX6_valueStart_82 (by decide) rfl ?_
        refine uu_lv [1, 2, 3, 4, 5, 0] (lv' := [(0, .ref (B + 1053)), (1, .int x1), (2, .int x2), (3, .ref (B + 1051)), (4, .int x4), (5, .int x4)]) rfl ?_
        exact xn_X6_valueStart_84 uk un  _ _ _ _ _ _ _ h
      · replace h := uu_neg c7 h
        refine uu_aload_n dX6_valueStart_65 rfl (List.mem_of_getElem? (i := 3) rfl) ?_
        refine uu_iload dX6_valueStart_66 (List.mem_of_getElem? (i := 4) rfl) ?_
        obtain ⟨v8, e9, h⟩ := uu_ob h
        refine uu_bald e9 dX6_valueStart_68 ?_
        refine uu_bipush (v := 58) dX6_valueStart_69 (by decide) ?_
        refine uu_icmp_eq (tgt := 80) dX6_valueStart_71 (by decide) (fun c10 => ?_) (fun c10 => ?_)
        · replace h := uu_pos c10 h
          refine uu_iload dX6_valueStart_80 (List.mem_of_getElem? (i := 4) rfl) ?_
          refine uu_istore dX6_valueStart_82 (by decide) rfl ?_
          refine uu_lv [1, 2, 3, 4, 5, 0] (lv' := [(0, .ref (B + 1053)), (1, .int x1), (2, .int x2), (3, .ref (B + 1051)), (4, .int x4), (5, .int x4)]) rfl ?_
          exact xn_X6_valueStart_84 uk un  _ _ _ _ _ _ _ h
        · replace h := uu_neg c10 h
          refine uu_iinc (v := x4 + 1) dX6_valueStart_74 (k := 4) rfl rfl (by decide) rfl ?_
          refine uu_goto (tgt := 41) dX6_valueStart_77 (by decide) ?_
          refine uu_lv [1, 2, 3, 4, 0] (lv' := [(0, .ref (B + 1053)), (1, .int x1), (2, .int x2), (3, .ref (B + 1051)), (4, .int (x4 + 1))]) rfl ?_
          exact hK41 x1 x2 (x4 + 1) _ _ h
def fn_X6_valueStart_41  : Nat → Int32 → Int32 → Int32 → uS → Option (uS × Int32)
  | 0 => fun _ _ _ _ => none
  | n + 1 => fb_X6_valueStart_41 (fn_X6_valueStart_41  n)
set_option maxRecDepth 100000 in
set_option maxHeartbeats 4000000 in
theorem xn_X6_valueStart_41 {l : Launch} {D : va_G} {A : Nat → ClassId} {B : Nat} {Z : State → Heap → Prop} {vF : Value} (uk : uK B Z vF) (un : uX A B Z)   : ∀ (n : Nat) (x1 : Int32) (x2 : Int32) (x4 : Int32)  (s : uS) (r : (uS × Int32)), fn_X6_valueStart_41  n x1 x2 x4 s = some r → GU l D A B Z mX6_valueStart 2 (r.1, some (.int r.2)) s 41 [(0, .ref (B + 1053)), (1, .int x1), (2, .int x2), (3, .ref (B + 1051)), (4, .int x4)] [] := by
  intro n
  induction n with
  | zero => intro x1 x2 x4 s r h
            cases h
  | succ n ih => intro x1 x2 x4 s r h
                 exact xb_X6_valueStart_41 uk un ih  h
def fn_X6_valueStart (x1 : Int32) (x2 : Int32) (s : uS) : Option (uS × Int32) := if x2 ≤ x1 then (fn_X6_valueStart_41 uFu x1 x2 x1 s) else ((iget 21 s 1051 x1).bind fun v2 => (fn_X9_isBlank v2 s).bind fun v4 => if v4 = true then (if (s.I 1054 3) ≤ 0 then (some (s, (-1 : Int32))) else (some (s, x1))) else (fn_X6_valueStart_41 uFu x1 x2 x1 s))
set_option maxRecDepth 100000 in
set_option maxHeartbeats 4000000 in
theorem xc_X6_valueStart {l : Launch} {D : va_G} {A : Nat → ClassId} {B : Nat} {Z : State → Heap → Prop} {vF : Value} (uk : uK B Z vF) (un : uX A B Z) {x1 : Int32} {x2 : Int32} {s : uS} {r : (uS × Int32)}  (h : fn_X6_valueStart x1 x2 s = some r) : CU l D A B Z 2 mX6_valueStart s [.ref (B + 1053), .int x1, .int x2] (r.1, some (.int r.2)) := by
  unfold fn_X6_valueStart at h
  refine cu_of rfl uk.1.1 (Nat.le_of_ble_eq_true rfl) ?_
  show GU _ _ _ _ _ _ _ _ _ 0 [(0, .ref (B + 1053)), (1, .int x1), (2, .int x2)] []
  refine uu_aload_n dX6_valueStart_0 rfl (List.mem_of_getElem? (i := 0) rfl) ?_
  refine uu_geta (ci := 6) (N := 6) fX6_27 (by decide) so_1053.is (by decide) (c := 1042) (by decide) dX6_valueStart_1 ?_
  refine uu_geta (ci := 0) (N := 12) fX6_54 (by decide) so_1042.is (by decide) (c := 1051) (by decide) dX6_valueStart_4 ?_
  refine uu_astore_n dX6_valueStart_7 rfl (by decide) rfl ?_
  refine uu_iload_n dX6_valueStart_8 rfl (List.mem_of_getElem? (i := 2) rfl) ?_
  refine uu_iload_n dX6_valueStart_9 rfl (List.mem_of_getElem? (i := 3) rfl) ?_
  refine uu_icmp_ge (tgt := 38) dX6_valueStart_10 (by decide) (fun c1 => ?_) (fun c1 => ?_)
  · replace h := uu_pos c1 h
    refine uu_iload_n dX6_valueStart_38 rfl (List.mem_of_getElem? (i := 2) rfl) ?_
    refine uu_istore dX6_valueStart_39 (by decide) rfl ?_
    refine uu_lv [2, 3, 4, 1, 0] (lv' := [(0, .ref (B + 1053)), (1, .int x1), (2, .int x2), (3, .ref (B + 1051)), (4, .int x1)]) rfl ?_
    exact xn_X6_valueStart_41 uk un  _ _ _ _ _ _ h
  · replace h := uu_neg c1 h
    refine uu_aload_n dX6_valueStart_13 rfl (List.mem_of_getElem? (i := 0) rfl) ?_
    refine uu_iload_n dX6_valueStart_14 rfl (List.mem_of_getElem? (i := 2) rfl) ?_
    obtain ⟨v2, e3, h⟩ := uu_ob h
    refine uu_bald e3 dX6_valueStart_15 ?_
    obtain ⟨v4, e5, h⟩ := uu_ob h
    refine uu_cs (d1 := 0) (As := [.int v2]) (st := []) (st' := [.int (bI v4)]) (xc_X9_isBlank uk  e5) kX9_isBlank lX6_68 sX9_isBlank (by decide) (Nat.le_of_ble_eq_true rfl) dX6_valueStart_16 rfl ?_
    refine uu_ifb_eq (tgt := 38) dX6_valueStart_19 (by decide) (fun c6 => ?_) (fun c6 => ?_)
    · replace h := uu_neg c6 h
      refine uu_iload_n dX6_valueStart_38 rfl (List.mem_of_getElem? (i := 2) rfl) ?_
      refine uu_istore dX6_valueStart_39 (by decide) rfl ?_
      refine uu_lv [2, 3, 4, 1, 0] (lv' := [(0, .ref (B + 1053)), (1, .int x1), (2, .int x2), (3, .ref (B + 1051)), (4, .int x1)]) rfl ?_
      exact xn_X6_valueStart_41 uk un  _ _ _ _ _ _ h
    · replace h := uu_pos c6 h
      refine uu_aload_n dX6_valueStart_22 rfl (List.mem_of_getElem? (i := 1) rfl) ?_
      refine uu_geta (ci := 6) (N := 6) fX6_14 (by decide) so_1053.is (by decide) (c := 1054) (by decide) dX6_valueStart_23 ?_
      refine uu_geti (ci := 9) (N := 6) fX6_62 (by decide) so_1054.is (by decide) (by decide) dX6_valueStart_26 ?_
      refine uu_if_le (tgt := 36) dX6_valueStart_29 (by decide) (fun c7 => ?_) (fun c7 => ?_)
      · replace h := uu_pos c7 h
        refine uu_iconst (v := -1) dX6_valueStart_36 (by decide) ?_
        have hr := Option.some.inj h
        subst hr
        exact uu_iret rfl dX6_valueStart_37
      · replace h := uu_neg c7 h
        refine uu_iload_n dX6_valueStart_32 rfl (List.mem_of_getElem? (i := 2) rfl) ?_
        refine uu_goto (tgt := 37) dX6_valueStart_33 (by decide) ?_
        have hr := Option.some.inj h
        subst hr
        exact uu_iret rfl dX6_valueStart_37
abbrev mX6_readHeader : hM := (yX6_readHeader, cX6_readHeader, 5, none)
theorem dX6_readHeader_90 : decode cX6_readHeader 90 = .ok (.aload_n 0, 1) := by decide +kernel
theorem dX6_readHeader_91 : decode cX6_readHeader 91 = .ok (.getfield 14, 3) := by decide +kernel
theorem dX6_readHeader_94 : decode cX6_readHeader 94 = .ok (.getfield 62, 3) := by decide +kernel
theorem dX6_readHeader_97 : decode cX6_readHeader 97 = .ok (.ifCond .le 10, 3) := by decide +kernel
theorem dX6_readHeader_107 : decode cX6_readHeader 107 = .ok (.return_, 1) := by decide +kernel
theorem dX6_readHeader_100 : decode cX6_readHeader 100 = .ok (.aload_n 0, 1) := by decide +kernel
theorem dX6_readHeader_101 : decode cX6_readHeader 101 = .ok (.getfield 18, 3) := by decide +kernel
theorem dX6_readHeader_104 : decode cX6_readHeader 104 = .ok (.invokevirtual 65, 3) := by decide +kernel
theorem dX6_readHeader_38 : decode cX6_readHeader 38 = .ok (.iload_n 2, 1) := by decide +kernel
theorem dX6_readHeader_39 : decode cX6_readHeader 39 = .ok (.iload_n 1, 1) := by decide +kernel
theorem dX6_readHeader_40 : decode cX6_readHeader 40 = .ok (.if_icmp .ge 50, 3) := by decide +kernel
theorem dX6_readHeader_43 : decode cX6_readHeader 43 = .ok (.aload_n 0, 1) := by decide +kernel
theorem dX6_readHeader_44 : decode cX6_readHeader 44 = .ok (.iload_n 2, 1) := by decide +kernel
theorem dX6_readHeader_45 : decode cX6_readHeader 45 = .ok (.iload_n 1, 1) := by decide +kernel
theorem kX6_lineEnd : h_ml mX6_lineEnd 2 := ⟨h_t4 125 rfl rfl, h_t1 14 rfl rfl, ⟨by decide, by decide, by decide +kernel⟩, by decide⟩
theorem lX6_47 : Cond.methodLink RX6 47 mX6_lineEnd.1 ∈ lw_g := h_t4 122 rfl rfl
theorem sX6_lineEnd : Cond.instanceMethod mX6_lineEnd.1 ∈ lw_g ∧ Cond.selects mX6_lineEnd.1.cls mX6_lineEnd.1 mX6_lineEnd.1 ∈ lw_g := ⟨h_t4 124 rfl rfl, h_ins 14 rfl⟩
theorem dX6_readHeader_46 : decode cX6_readHeader 46 = .ok (.invokevirtual 47, 3) := by decide +kernel
theorem dX6_readHeader_49 : decode cX6_readHeader 49 = .ok (.istore_n 3, 1) := by decide +kernel
theorem dX6_readHeader_50 : decode cX6_readHeader 50 = .ok (.aload_n 0, 1) := by decide +kernel
theorem dX6_readHeader_51 : decode cX6_readHeader 51 = .ok (.iload_n 2, 1) := by decide +kernel
theorem dX6_readHeader_52 : decode cX6_readHeader 52 = .ok (.iload_n 3, 1) := by decide +kernel
theorem kX6_valueStart : h_ml mX6_valueStart 2 := ⟨h_t4 129 rfl rfl, h_t1 14 rfl rfl, ⟨by decide, by decide, by decide +kernel⟩, by decide⟩
theorem lX6_51 : Cond.methodLink RX6 51 mX6_valueStart.1 ∈ lw_g := h_t4 126 rfl rfl
theorem sX6_valueStart : Cond.instanceMethod mX6_valueStart.1 ∈ lw_g ∧ Cond.selects mX6_valueStart.1.cls mX6_valueStart.1 mX6_valueStart.1 ∈ lw_g := ⟨h_t4 128 rfl rfl, h_ins 15 rfl⟩
theorem dX6_readHeader_53 : decode cX6_readHeader 53 = .ok (.invokevirtual 51, 3) := by decide +kernel
theorem dX6_readHeader_56 : decode cX6_readHeader 56 = .ok (.istore 4, 2) := by decide +kernel
theorem dX6_readHeader_58 : decode cX6_readHeader 58 = .ok (.iload 4, 2) := by decide +kernel
theorem dX6_readHeader_60 : decode cX6_readHeader 60 = .ok (.ifCond .ge 6, 3) := by decide +kernel
theorem dX6_readHeader_66 : decode cX6_readHeader 66 = .ok (.aload_n 0, 1) := by decide +kernel
theorem dX6_readHeader_67 : decode cX6_readHeader 67 = .ok (.getfield 18, 3) := by decide +kernel
theorem dX6_readHeader_70 : decode cX6_readHeader 70 = .ok (.aload_n 0, 1) := by decide +kernel
theorem dX6_readHeader_71 : decode cX6_readHeader 71 = .ok (.getfield 27, 3) := by decide +kernel
theorem dX6_readHeader_74 : decode cX6_readHeader 74 = .ok (.getfield 54, 3) := by decide +kernel
theorem dX6_readHeader_77 : decode cX6_readHeader 77 = .ok (.iload 4, 2) := by decide +kernel
theorem dX6_readHeader_79 : decode cX6_readHeader 79 = .ok (.iload_n 3, 1) := by decide +kernel
theorem dX6_readHeader_80 : decode cX6_readHeader 80 = .ok (.invokevirtual 58, 3) := by decide +kernel
theorem dX6_readHeader_83 : decode cX6_readHeader 83 = .ok (.iload_n 3, 1) := by decide +kernel
theorem dX6_readHeader_84 : decode cX6_readHeader 84 = .ok (.iconst 2, 1) := by decide +kernel
theorem dX6_readHeader_85 : decode cX6_readHeader 85 = .ok (.iadd, 1) := by decide +kernel
theorem dX6_readHeader_86 : decode cX6_readHeader 86 = .ok (.istore_n 2, 1) := by decide +kernel
theorem dX6_readHeader_87 : decode cX6_readHeader 87 = .ok (.goto (-49), 3) := by decide +kernel
theorem dX6_readHeader_63 : decode cX6_readHeader 63 = .ok (.goto 27, 3) := by decide +kernel
theorem dX6_readHeader_0 : decode cX6_readHeader 0 = .ok (.aload_n 0, 1) := by decide +kernel
theorem dX6_readHeader_1 : decode cX6_readHeader 1 = .ok (.getfield 14, 3) := by decide +kernel
theorem dX6_readHeader_4 : decode cX6_readHeader 4 = .ok (.invokevirtual 34, 3) := by decide +kernel
theorem dX6_readHeader_7 : decode cX6_readHeader 7 = .ok (.aload_n 0, 1) := by decide +kernel
theorem dX6_readHeader_8 : decode cX6_readHeader 8 = .ok (.getfield 18, 3) := by decide +kernel
theorem dX6_readHeader_11 : decode cX6_readHeader 11 = .ok (.invokevirtual 34, 3) := by decide +kernel
theorem dX6_readHeader_14 : decode cX6_readHeader 14 = .ok (.aload_n 0, 1) := by decide +kernel
theorem dX6_readHeader_15 : decode cX6_readHeader 15 = .ok (.getfield 27, 3) := by decide +kernel
theorem kX0_isTooBig : h_ml mX0_isTooBig 0 := ⟨h_t4 121 rfl rfl, h_t1 13 rfl rfl, ⟨by decide, by decide, by decide +kernel⟩, by decide⟩
theorem lX6_37 : Cond.methodLink RX6 37 mX0_isTooBig.1 ∈ lw_g := h_t4 118 rfl rfl
theorem sX0_isTooBig : Cond.instanceMethod mX0_isTooBig.1 ∈ lw_g ∧ Cond.selects mX0_isTooBig.1.cls mX0_isTooBig.1 mX0_isTooBig.1 ∈ lw_g := ⟨h_t4 119 rfl rfl, h_t4 120 rfl rfl⟩
theorem dX6_readHeader_18 : decode cX6_readHeader 18 = .ok (.invokevirtual 37, 3) := by decide +kernel
theorem dX6_readHeader_21 : decode cX6_readHeader 21 = .ok (.ifCond .eq 7, 3) := by decide +kernel
theorem dX6_readHeader_28 : decode cX6_readHeader 28 = .ok (.aload_n 0, 1) := by decide +kernel
theorem dX6_readHeader_29 : decode cX6_readHeader 29 = .ok (.getfield 27, 3) := by decide +kernel
theorem dX6_readHeader_32 : decode cX6_readHeader 32 = .ok (.getfield 43, 3) := by decide +kernel
theorem dX6_readHeader_35 : decode cX6_readHeader 35 = .ok (.istore_n 1, 1) := by decide +kernel
theorem dX6_readHeader_36 : decode cX6_readHeader 36 = .ok (.iconst 0, 1) := by decide +kernel
theorem dX6_readHeader_37 : decode cX6_readHeader 37 = .ok (.istore_n 2, 1) := by decide +kernel
theorem dX6_readHeader_24 : decode cX6_readHeader 24 = .ok (.iconst 0, 1) := by decide +kernel
theorem dX6_readHeader_25 : decode cX6_readHeader 25 = .ok (.goto 10, 3) := by decide +kernel
def fb_X6_readHeader_90   (s : uS) : Option uS := if (s.I 1054 3) ≤ 0 then (some s) else ((fn_X9_closeTrimmed 1058 s).bind fun s2 => some s2)
set_option maxRecDepth 100000 in
set_option maxHeartbeats 4000000 in
theorem xb_X6_readHeader_90 {l : Launch} {D : va_G} {A : Nat → ClassId} {B : Nat} {Z : State → Heap → Prop} {vF : Value} (uk : uK B Z vF) (un : uX A B Z)    {s : uS} {r : uS}  (h : fb_X6_readHeader_90   s = some r) : GU l D A B Z mX6_readHeader 3 (r, none) s 90 [(0, .ref (B + 1053))] [] := by
  unfold fb_X6_readHeader_90 at h
  refine uu_aload_n dX6_readHeader_90 rfl (List.mem_of_getElem? (i := 0) rfl) ?_
  refine uu_geta (ci := 6) (N := 6) fX6_14 (by decide) so_1053.is (by decide) (c := 1054) (by decide) dX6_readHeader_91 ?_
  refine uu_geti (ci := 9) (N := 6) fX6_62 (by decide) so_1054.is (by decide) (by decide) dX6_readHeader_94 ?_
  refine uu_if_le (tgt := 107) dX6_readHeader_97 (by decide) (fun c1 => ?_) (fun c1 => ?_)
  · replace h := uu_pos c1 h
    have hr := Option.some.inj h
    subst hr
    exact uu_vret rfl dX6_readHeader_107
  · replace h := uu_neg c1 h
    refine uu_aload_n dX6_readHeader_100 rfl (List.mem_of_getElem? (i := 0) rfl) ?_
    refine uu_geta (ci := 6) (N := 6) fX6_18 (by decide) so_1053.is (by decide) (c := 1058) (by decide) dX6_readHeader_101 ?_
    obtain ⟨s2, e3, h⟩ := uu_ob h
    refine uu_cv (d1 := 1) (k := 1058) (ci := 9) (T := TX9) (N := 6) (As := []) (st := []) (st' := []) (xc_X9_closeTrimmed uk so_1058 e3) so_1058.is (by decide) rfl kX9_closeTrimmed lX6_65 sX9_closeTrimmed (by decide) (Nat.le_of_ble_eq_true rfl) dX6_readHeader_104 rfl ?_
    have hr := Option.some.inj h
    subst hr
    exact uu_vret rfl dX6_readHeader_107
def fb_X6_readHeader_38 (K38 : Int32 → Int32 → uS → Option uS) (x1 : Int32) (x2 : Int32) (s : uS) : Option uS := if x1 ≤ x2 then (fb_X6_readHeader_90 s) else ((fn_X6_lineEnd x2 x1 s).bind fun v2 => (fn_X6_valueStart x2 v2 s).bind fun r4 => if 0 ≤ r4.2 then ((fn_X9_putRange 1058 1051 r4.2 v2 r4.1).bind fun s7 => K38 x1 (v2 + 2) s7) else (fb_X6_readHeader_90 r4.1))
set_option maxRecDepth 100000 in
set_option maxHeartbeats 4000000 in
theorem xb_X6_readHeader_38 {l : Launch} {D : va_G} {A : Nat → ClassId} {B : Nat} {Z : State → Heap → Prop} {vF : Value} (uk : uK B Z vF) (un : uX A B Z) {K38 : Int32 → Int32 → uS → Option uS} (hK38 : ∀ (x1 : Int32) (x2 : Int32)  (s : uS) (r : uS), K38 x1 x2 s = some r → GU l D A B Z mX6_readHeader 3 (r, none) s 38 [(0, .ref (B + 1053)), (1, .int x1), (2, .int x2)] []) {x1 : Int32} {x2 : Int32} {s : uS} {r : uS}  (h : fb_X6_readHeader_38 K38 x1 x2 s = some r) : GU l D A B Z mX6_readHeader 3 (r, none) s 38 [(0, .ref (B + 1053)), (1, .int x1), (2, .int x2)] [] := by
  unfold fb_X6_readHeader_38 at h
  refine uu_iload_n dX6_readHeader_38 rfl (List.mem_of_getElem? (i := 2) rfl) ?_
  refine uu_iload_n dX6_readHeader_39 rfl (List.mem_of_getElem? (i := 1) rfl) ?_
  refine uu_icmp_ge (tgt := 90) dX6_readHeader_40 (by decide) (fun c1 => ?_) (fun c1 => ?_)
  · replace h := uu_pos c1 h
    refine uu_lv [0] (lv' := [(0, .ref (B + 1053))]) rfl ?_
    exact xb_X6_readHeader_90 uk un  h
  · replace h := uu_neg c1 h
    refine uu_aload_n dX6_readHeader_43 rfl (List.mem_of_getElem? (i := 0) rfl) ?_
    refine uu_iload_n dX6_readHeader_44 rfl (List.mem_of_getElem? (i := 2) rfl) ?_
    refine uu_iload_n dX6_readHeader_45 rfl (List.mem_of_getElem? (i := 1) rfl) ?_
    obtain ⟨v2, e3, h⟩ := uu_ob h
    refine uu_cv (d1 := 0) (k := 1053) (ci := 6) (T := TX6) (N := 6) (As := [.int x2, .int x1]) (st := []) (st' := [.int v2]) (xc_X6_lineEnd uk  e3) so_1053.is (by decide) rfl kX6_lineEnd lX6_47 sX6_lineEnd (by decide) (Nat.le_of_ble_eq_true rfl) dX6_readHeader_46 rfl ?_
    refine uu_istore_n dX6_readHeader_49 rfl (by decide) rfl ?_
    refine uu_aload_n dX6_readHeader_50 rfl (List.mem_of_getElem? (i := 1) rfl) ?_
    refine uu_iload_n dX6_readHeader_51 rfl (List.mem_of_getElem? (i := 3) rfl) ?_
    refine uu_iload_n dX6_readHeader_52 rfl (List.mem_of_getElem? (i := 0) rfl) ?_
    obtain ⟨r4, e5, h⟩ := uu_ob h
    refine uu_cv (d1 := 2) (k := 1053) (ci := 6) (T := TX6) (N := 6) (As := [.int x2, .int v2]) (st := []) (st' := [.int r4.2]) (xc_X6_valueStart uk un  e5) so_1053.is (by decide) rfl kX6_valueStart lX6_51 sX6_valueStart (by decide) (Nat.le_of_ble_eq_true rfl) dX6_readHeader_53 rfl ?_
    refine uu_istore dX6_readHeader_56 (by decide) rfl ?_
    refine uu_iload dX6_readHeader_58 (List.mem_of_getElem? (i := 0) rfl) ?_
    refine uu_if_ge (tgt := 66) dX6_readHeader_60 (by decide) (fun c6 => ?_) (fun c6 => ?_)
    · replace h := uu_pos c6 h
      refine uu_aload_n dX6_readHeader_66 rfl (List.mem_of_getElem? (i := 2) rfl) ?_
      refine uu_geta (ci := 6) (N := 6) fX6_18 (by decide) so_1053.is (by decide) (c := 1058) (by decide) dX6_readHeader_67 ?_
      refine uu_aload_n dX6_readHeader_70 rfl (List.mem_of_getElem? (i := 2) rfl) ?_
      refine uu_geta (ci := 6) (N := 6) fX6_27 (by decide) so_1053.is (by decide) (c := 1042) (by decide) dX6_readHeader_71 ?_
      refine uu_geta (ci := 0) (N := 12) fX6_54 (by decide) so_1042.is (by decide) (c := 1051) (by decide) dX6_readHeader_74 ?_
      refine uu_iload dX6_readHeader_77 (List.mem_of_getElem? (i := 0) rfl) ?_
      refine uu_iload_n dX6_readHeader_79 rfl (List.mem_of_getElem? (i := 1) rfl) ?_
      obtain ⟨s7, e8, h⟩ := uu_ob h
      refine uu_cv (d1 := 1) (k := 1058) (ci := 9) (T := TX9) (N := 6) (As := [.ref (B + 1051), .int r4.2, .int v2]) (st := []) (st' := []) (xc_X9_putRange uk un so_1058 e8) so_1058.is (by decide) rfl kX9_putRange lX6_58 sX9_putRange (by decide) (Nat.le_of_ble_eq_true rfl) dX6_readHeader_80 rfl ?_
      refine uu_iload_n dX6_readHeader_83 rfl (List.mem_of_getElem? (i := 1) rfl) ?_
      refine uu_iconst (v := 2) dX6_readHeader_84 (by decide) ?_
      refine uu_iadd dX6_readHeader_85 ?_
      refine uu_istore_n dX6_readHeader_86 rfl (by decide) rfl ?_
      refine uu_goto (tgt := 38) dX6_readHeader_87 (by decide) ?_
      refine uu_lv [3, 4, 0] (lv' := [(0, .ref (B + 1053)), (1, .int x1), (2, .int (v2 + 2))]) rfl ?_
      exact hK38 x1 (v2 + 2) _ _ h
    · replace h := uu_neg c6 h
      refine uu_goto (tgt := 90) dX6_readHeader_63 (by decide) ?_
      refine uu_lv [2] (lv' := [(0, .ref (B + 1053))]) rfl ?_
      exact xb_X6_readHeader_90 uk un  h
def fn_X6_readHeader_38  : Nat → Int32 → Int32 → uS → Option uS
  | 0 => fun _ _ _ => none
  | n + 1 => fb_X6_readHeader_38 (fn_X6_readHeader_38  n)
set_option maxRecDepth 100000 in
set_option maxHeartbeats 4000000 in
theorem xn_X6_readHeader_38 {l : Launch} {D : va_G} {A : Nat → ClassId} {B : Nat} {Z : State → Heap → Prop} {vF : Value} (uk : uK B Z vF) (un : uX A B Z)   : ∀ (n : Nat) (x1 : Int32) (x2 : Int32)  (s : uS) (r : uS), fn_X6_readHeader_38  n x1 x2 s = some r → GU l D A B Z mX6_readHeader 3 (r, none) s 38 [(0, .ref (B + 1053)), (1, .int x1), (2, .int x2)] [] := by
  intro n
  induction n with
  | zero => intro x1 x2 s r h
            cases h
  | succ n ih => intro x1 x2 s r h
                 exact xb_X6_readHeader_38 uk un ih  h
def fn_X6_readHeader  (s : uS) : Option uS := (fn_X9_clear 1054 s).bind fun s1 => (fn_X9_clear 1058 s1).bind fun s3 => (fn_X0_isTooBig s3).bind fun v5 => if v5 = true then (fn_X6_readHeader_38 uFu 0 0 s3) else (fn_X6_readHeader_38 uFu (s3.I 1042 3) 0 s3)
set_option maxRecDepth 100000 in
set_option maxHeartbeats 4000000 in
theorem xc_X6_readHeader {l : Launch} {D : va_G} {A : Nat → ClassId} {B : Nat} {Z : State → Heap → Prop} {vF : Value} (uk : uK B Z vF) (un : uX A B Z)  {s : uS} {r : uS}  (h : fn_X6_readHeader  s = some r) : CU l D A B Z 3 mX6_readHeader s [.ref (B + 1053)] (r, none) := by
  unfold fn_X6_readHeader at h
  refine cu_of rfl uk.1.1 (Nat.le_of_ble_eq_true rfl) ?_
  show GU _ _ _ _ _ _ _ _ _ 0 [(0, .ref (B + 1053))] []
  refine uu_aload_n dX6_readHeader_0 rfl (List.mem_of_getElem? (i := 0) rfl) ?_
  refine uu_geta (ci := 6) (N := 6) fX6_14 (by decide) so_1053.is (by decide) (c := 1054) (by decide) dX6_readHeader_1 ?_
  obtain ⟨s1, e2, h⟩ := uu_ob h
  refine uu_cv (d1 := 0) (k := 1054) (ci := 9) (T := TX9) (N := 6) (As := []) (st := []) (st' := []) (xc_X9_clear uk so_1054 e2) so_1054.is (by decide) rfl kX9_clear lX6_34 sX9_clear (by decide) (Nat.le_of_ble_eq_true rfl) dX6_readHeader_4 rfl ?_
  refine uu_aload_n dX6_readHeader_7 rfl (List.mem_of_getElem? (i := 0) rfl) ?_
  refine uu_geta (ci := 6) (N := 6) fX6_18 (by decide) so_1053.is (by decide) (c := 1058) (by decide) dX6_readHeader_8 ?_
  obtain ⟨s3, e4, h⟩ := uu_ob h
  refine uu_cv (d1 := 0) (k := 1058) (ci := 9) (T := TX9) (N := 6) (As := []) (st := []) (st' := []) (xc_X9_clear uk so_1058 e4) so_1058.is (by decide) rfl kX9_clear lX6_34 sX9_clear (by decide) (Nat.le_of_ble_eq_true rfl) dX6_readHeader_11 rfl ?_
  refine uu_aload_n dX6_readHeader_14 rfl (List.mem_of_getElem? (i := 0) rfl) ?_
  refine uu_geta (ci := 6) (N := 6) fX6_27 (by decide) so_1053.is (by decide) (c := 1042) (by decide) dX6_readHeader_15 ?_
  obtain ⟨v5, e6, h⟩ := uu_ob h
  refine uu_cv (d1 := 0) (k := 1042) (ci := 0) (T := TX0) (N := 12) (As := []) (st := []) (st' := [.int (bI v5)]) (xc_X0_isTooBig uk  e6) so_1042.is (by decide) rfl kX0_isTooBig lX6_37 sX0_isTooBig (by decide) (Nat.le_of_ble_eq_true rfl) dX6_readHeader_18 rfl ?_
  refine uu_ifb_eq (tgt := 28) dX6_readHeader_21 (by decide) (fun c7 => ?_) (fun c7 => ?_)
  · replace h := uu_neg c7 h
    refine uu_aload_n dX6_readHeader_28 rfl (List.mem_of_getElem? (i := 0) rfl) ?_
    refine uu_geta (ci := 6) (N := 6) fX6_27 (by decide) so_1053.is (by decide) (c := 1042) (by decide) dX6_readHeader_29 ?_
    refine uu_geti (ci := 0) (N := 12) fX6_43 (by decide) so_1042.is (by decide) (by decide) dX6_readHeader_32 ?_
    refine uu_istore_n dX6_readHeader_35 rfl (by decide) rfl ?_
    refine uu_iconst (v := 0) dX6_readHeader_36 (by decide) ?_
    refine uu_istore_n dX6_readHeader_37 rfl (by decide) rfl ?_
    refine uu_lv [2, 1, 0] (lv' := [(0, .ref (B + 1053)), (1, .int (s3.I 1042 3)), (2, .int 0)]) rfl ?_
    exact xn_X6_readHeader_38 uk un  _ _ _ _ _ h
  · replace h := uu_pos c7 h
    refine uu_iconst (v := 0) dX6_readHeader_24 (by decide) ?_
    refine uu_goto (tgt := 35) dX6_readHeader_25 (by decide) ?_
    refine uu_istore_n dX6_readHeader_35 rfl (by decide) rfl ?_
    refine uu_iconst (v := 0) dX6_readHeader_36 (by decide) ?_
    refine uu_istore_n dX6_readHeader_37 rfl (by decide) rfl ?_
    refine uu_lv [2, 1, 0] (lv' := [(0, .ref (B + 1053)), (1, .int 0), (2, .int 0)]) rfl ?_
    exact xn_X6_readHeader_38 uk un  _ _ _ _ _ h
