abbrev mX12_ordered : hM := (yX12_ordered, cX12_ordered, 5, (some (.boolean)))
theorem dX12_ordered_209 : decode cX12_ordered 209 = .ok (.aload_n 0, 1) := by decide +kernel
theorem dX12_ordered_210 : decode cX12_ordered 210 = .ok (.iload_n 1, 1) := by decide +kernel
theorem dX12_ordered_211 : decode cX12_ordered 211 = .ok (.ldc_w 1339, 3) := by decide +kernel
theorem dX12_ordered_214 : decode cX12_ordered 214 = .ok (.invokevirtual 1304, 3) := by decide +kernel
theorem dX12_ordered_217 : decode cX12_ordered 217 = .ok (.goto 11, 3) := by decide +kernel
theorem dX12_ordered_228 : decode cX12_ordered 228 = .ok (.iconst 1, 1) := by decide +kernel
theorem dX12_ordered_229 : decode cX12_ordered 229 = .ok (.ireturn, 1) := by decide +kernel
theorem dX12_ordered_220 : decode cX12_ordered 220 = .ok (.aload_n 0, 1) := by decide +kernel
theorem dX12_ordered_221 : decode cX12_ordered 221 = .ok (.iload_n 1, 1) := by decide +kernel
theorem dX12_ordered_222 : decode cX12_ordered 222 = .ok (.ldc_w 1334, 3) := by decide +kernel
theorem dX12_ordered_225 : decode cX12_ordered 225 = .ok (.invokevirtual 974, 3) := by decide +kernel
theorem dX12_ordered_83 : decode cX12_ordered 83 = .ok (.istore 4, 2) := by decide +kernel
theorem dX12_ordered_85 : decode cX12_ordered 85 = .ok (.iload 4, 2) := by decide +kernel
theorem dX12_ordered_87 : decode cX12_ordered 87 = .ok (.ifCond .ne 13, 3) := by decide +kernel
theorem dX12_ordered_100 : decode cX12_ordered 100 = .ok (.iload_n 2, 1) := by decide +kernel
theorem dX12_ordered_101 : decode cX12_ordered 101 = .ok (.tableswitch 159 0 7 #[47, 53, 77, 129, 135, 141, 147, 153], 47) := by decide +kernel
theorem dX12_ordered_148 : decode cX12_ordered 148 = .ok (.aload_n 0, 1) := by decide +kernel
theorem dX12_ordered_149 : decode cX12_ordered 149 = .ok (.iload_n 1, 1) := by decide +kernel
theorem kX12_putScript : h_ml mX12_putScript 1 := ⟨h_t11 138 rfl rfl, h_t1 16 rfl rfl, ⟨by decide, by decide, by decide +kernel⟩, by decide⟩
theorem lX12_1325 : Cond.methodLink RX12 1325 mX12_putScript.1 ∈ lw_g := h_t11 135 rfl rfl
theorem sX12_putScript : Cond.instanceMethod mX12_putScript.1 ∈ lw_g ∧ Cond.selects mX12_putScript.1.cls mX12_putScript.1 mX12_putScript.1 ∈ lw_g := ⟨h_t11 137 rfl rfl, h_ins 273 rfl⟩
theorem dX12_ordered_150 : decode cX12_ordered 150 = .ok (.invokevirtual 1325, 3) := by decide +kernel
theorem dX12_ordered_153 : decode cX12_ordered 153 = .ok (.ireturn, 1) := by decide +kernel
theorem dX12_ordered_154 : decode cX12_ordered 154 = .ok (.aload_n 0, 1) := by decide +kernel
theorem dX12_ordered_155 : decode cX12_ordered 155 = .ok (.iload_n 1, 1) := by decide +kernel
theorem dX12_ordered_156 : decode cX12_ordered 156 = .ok (.iconst 0, 1) := by decide +kernel
theorem dX12_ordered_157 : decode cX12_ordered 157 = .ok (.invokevirtual 1328, 3) := by decide +kernel
theorem dX12_ordered_160 : decode cX12_ordered 160 = .ok (.aload_n 0, 1) := by decide +kernel
theorem dX12_ordered_161 : decode cX12_ordered 161 = .ok (.iload_n 1, 1) := by decide +kernel
theorem dX12_ordered_162 : decode cX12_ordered 162 = .ok (.invokevirtual 1331, 3) := by decide +kernel
theorem dX12_ordered_165 : decode cX12_ordered 165 = .ok (.ifCond .eq 11, 3) := by decide +kernel
theorem dX12_ordered_176 : decode cX12_ordered 176 = .ok (.iconst 1, 1) := by decide +kernel
theorem dX12_ordered_177 : decode cX12_ordered 177 = .ok (.ireturn, 1) := by decide +kernel
theorem dX12_ordered_168 : decode cX12_ordered 168 = .ok (.aload_n 0, 1) := by decide +kernel
theorem dX12_ordered_169 : decode cX12_ordered 169 = .ok (.iload_n 1, 1) := by decide +kernel
theorem dX12_ordered_170 : decode cX12_ordered 170 = .ok (.ldc_w 1334, 3) := by decide +kernel
theorem dX12_ordered_173 : decode cX12_ordered 173 = .ok (.invokevirtual 974, 3) := by decide +kernel
theorem dX12_ordered_178 : decode cX12_ordered 178 = .ok (.aload_n 0, 1) := by decide +kernel
theorem dX12_ordered_179 : decode cX12_ordered 179 = .ok (.getfield 1270, 3) := by decide +kernel
theorem dX12_ordered_182 : decode cX12_ordered 182 = .ok (.iload_n 1, 1) := by decide +kernel
theorem dX12_ordered_183 : decode cX12_ordered 183 = .ok (.iaload, 1) := by decide +kernel
theorem dX12_ordered_184 : decode cX12_ordered 184 = .ok (.sipush 2000, 3) := by decide +kernel
theorem dX12_ordered_187 : decode cX12_ordered 187 = .ok (.if_icmp .gt 22, 3) := by decide +kernel
theorem dX12_ordered_190 : decode cX12_ordered 190 = .ok (.aload_n 0, 1) := by decide +kernel
theorem dX12_ordered_191 : decode cX12_ordered 191 = .ok (.iload_n 1, 1) := by decide +kernel
theorem dX12_ordered_192 : decode cX12_ordered 192 = .ok (.iconst 0, 1) := by decide +kernel
theorem dX12_ordered_193 : decode cX12_ordered 193 = .ok (.invokevirtual 1336, 3) := by decide +kernel
theorem dX12_ordered_196 : decode cX12_ordered 196 = .ok (.ifCond .ge 24, 3) := by decide +kernel
theorem dX12_ordered_199 : decode cX12_ordered 199 = .ok (.aload_n 0, 1) := by decide +kernel
theorem dX12_ordered_200 : decode cX12_ordered 200 = .ok (.getfield 1180, 3) := by decide +kernel
theorem dX12_ordered_203 : decode cX12_ordered 203 = .ok (.iload_n 1, 1) := by decide +kernel
theorem dX12_ordered_204 : decode cX12_ordered 204 = .ok (.iaload, 1) := by decide +kernel
theorem dX12_ordered_205 : decode cX12_ordered 205 = .ok (.iconst 4, 1) := by decide +kernel
theorem dX12_ordered_206 : decode cX12_ordered 206 = .ok (.if_icmp .ne 14, 3) := by decide +kernel
theorem dX12_ordered_230 : decode cX12_ordered 230 = .ok (.aload_n 0, 1) := by decide +kernel
theorem dX12_ordered_231 : decode cX12_ordered 231 = .ok (.iload_n 1, 1) := by decide +kernel
theorem kX12_setActive : h_ml mX12_setActive 1 := ⟨h_t11 173 rfl rfl, h_t1 16 rfl rfl, ⟨by decide, by decide, by decide +kernel⟩, by decide⟩
theorem lX12_1341 : Cond.methodLink RX12 1341 mX12_setActive.1 ∈ lw_g := h_t11 170 rfl rfl
theorem sX12_setActive : Cond.instanceMethod mX12_setActive.1 ∈ lw_g ∧ Cond.selects mX12_setActive.1.cls mX12_setActive.1 mX12_setActive.1 ∈ lw_g := ⟨h_t11 172 rfl rfl, h_ins 281 rfl⟩
theorem dX12_ordered_232 : decode cX12_ordered 232 = .ok (.invokevirtual 1341, 3) := by decide +kernel
theorem dX12_ordered_235 : decode cX12_ordered 235 = .ok (.ireturn, 1) := by decide +kernel
theorem dX12_ordered_236 : decode cX12_ordered 236 = .ok (.aload_n 0, 1) := by decide +kernel
theorem dX12_ordered_237 : decode cX12_ordered 237 = .ok (.iload_n 1, 1) := by decide +kernel
theorem kX12_getScript : h_ml mX12_getScript 1 := ⟨h_t11 178 rfl rfl, h_t1 16 rfl rfl, ⟨by decide, by decide, by decide +kernel⟩, by decide⟩
theorem lX12_1344 : Cond.methodLink RX12 1344 mX12_getScript.1 ∈ lw_g := h_t11 175 rfl rfl
theorem sX12_getScript : Cond.instanceMethod mX12_getScript.1 ∈ lw_g ∧ Cond.selects mX12_getScript.1.cls mX12_getScript.1 mX12_getScript.1 ∈ lw_g := ⟨h_t11 177 rfl rfl, h_ins 282 rfl⟩
theorem dX12_ordered_238 : decode cX12_ordered 238 = .ok (.invokevirtual 1344, 3) := by decide +kernel
theorem dX12_ordered_241 : decode cX12_ordered 241 = .ok (.ireturn, 1) := by decide +kernel
theorem dX12_ordered_242 : decode cX12_ordered 242 = .ok (.aload_n 0, 1) := by decide +kernel
theorem dX12_ordered_243 : decode cX12_ordered 243 = .ok (.iload_n 1, 1) := by decide +kernel
theorem kX12_listScripts : h_ml mX12_listScripts 1 := ⟨h_t11 184 rfl rfl, h_t1 16 rfl rfl, ⟨by decide, by decide, by decide +kernel⟩, by decide⟩
theorem lX12_1347 : Cond.methodLink RX12 1347 mX12_listScripts.1 ∈ lw_g := h_t11 181 rfl rfl
theorem sX12_listScripts : Cond.instanceMethod mX12_listScripts.1 ∈ lw_g ∧ Cond.selects mX12_listScripts.1.cls mX12_listScripts.1 mX12_listScripts.1 ∈ lw_g := ⟨h_t11 183 rfl rfl, h_ins 283 rfl⟩
theorem dX12_ordered_244 : decode cX12_ordered 244 = .ok (.invokevirtual 1347, 3) := by decide +kernel
theorem dX12_ordered_247 : decode cX12_ordered 247 = .ok (.ireturn, 1) := by decide +kernel
theorem dX12_ordered_248 : decode cX12_ordered 248 = .ok (.aload_n 0, 1) := by decide +kernel
theorem dX12_ordered_249 : decode cX12_ordered 249 = .ok (.iload_n 1, 1) := by decide +kernel
theorem kX12_deleteScript : h_ml mX12_deleteScript 1 := ⟨h_t11 189 rfl rfl, h_t1 16 rfl rfl, ⟨by decide, by decide, by decide +kernel⟩, by decide⟩
theorem lX12_1350 : Cond.methodLink RX12 1350 mX12_deleteScript.1 ∈ lw_g := h_t11 186 rfl rfl
theorem sX12_deleteScript : Cond.instanceMethod mX12_deleteScript.1 ∈ lw_g ∧ Cond.selects mX12_deleteScript.1.cls mX12_deleteScript.1 mX12_deleteScript.1 ∈ lw_g := ⟨h_t11 188 rfl rfl, h_ins 284 rfl⟩
theorem dX12_ordered_250 : decode cX12_ordered 250 = .ok (.invokevirtual 1350, 3) := by decide +kernel
theorem dX12_ordered_253 : decode cX12_ordered 253 = .ok (.ireturn, 1) := by decide +kernel
theorem dX12_ordered_254 : decode cX12_ordered 254 = .ok (.aload_n 0, 1) := by decide +kernel
theorem dX12_ordered_255 : decode cX12_ordered 255 = .ok (.iload_n 1, 1) := by decide +kernel
theorem kX12_renameScript : h_ml mX12_renameScript 1 := ⟨h_t11 194 rfl rfl, h_t1 16 rfl rfl, ⟨by decide, by decide, by decide +kernel⟩, by decide⟩
theorem lX12_1353 : Cond.methodLink RX12 1353 mX12_renameScript.1 ∈ lw_g := h_t11 191 rfl rfl
theorem sX12_renameScript : Cond.instanceMethod mX12_renameScript.1 ∈ lw_g ∧ Cond.selects mX12_renameScript.1.cls mX12_renameScript.1 mX12_renameScript.1 ∈ lw_g := ⟨h_t11 193 rfl rfl, h_ins 285 rfl⟩
theorem dX12_ordered_256 : decode cX12_ordered 256 = .ok (.invokevirtual 1353, 3) := by decide +kernel
theorem dX12_ordered_259 : decode cX12_ordered 259 = .ok (.ireturn, 1) := by decide +kernel
theorem dX12_ordered_260 : decode cX12_ordered 260 = .ok (.aload_n 0, 1) := by decide +kernel
theorem dX12_ordered_261 : decode cX12_ordered 261 = .ok (.iload_n 1, 1) := by decide +kernel
theorem dX12_ordered_262 : decode cX12_ordered 262 = .ok (.ldc_w 1334, 3) := by decide +kernel
theorem dX12_ordered_265 : decode cX12_ordered 265 = .ok (.invokevirtual 974, 3) := by decide +kernel
theorem dX12_ordered_268 : decode cX12_ordered 268 = .ok (.iconst 1, 1) := by decide +kernel
theorem dX12_ordered_269 : decode cX12_ordered 269 = .ok (.ireturn, 1) := by decide +kernel
theorem dX12_ordered_90 : decode cX12_ordered 90 = .ok (.aload_n 0, 1) := by decide +kernel
theorem dX12_ordered_91 : decode cX12_ordered 91 = .ok (.iload_n 1, 1) := by decide +kernel
theorem dX12_ordered_92 : decode cX12_ordered 92 = .ok (.ldc_w 1302, 3) := by decide +kernel
theorem dX12_ordered_95 : decode cX12_ordered 95 = .ok (.invokevirtual 1304, 3) := by decide +kernel
theorem dX12_ordered_98 : decode cX12_ordered 98 = .ok (.iconst 1, 1) := by decide +kernel
theorem dX12_ordered_99 : decode cX12_ordered 99 = .ok (.ireturn, 1) := by decide +kernel
theorem dX12_ordered_54 : decode cX12_ordered 54 = .ok (.aload_n 0, 1) := by decide +kernel
theorem dX12_ordered_55 : decode cX12_ordered 55 = .ok (.iload_n 1, 1) := by decide +kernel
theorem dX12_ordered_56 : decode cX12_ordered 56 = .ok (.iconst 0, 1) := by decide +kernel
theorem kX12_isName : h_ml mX12_isName 2 := ⟨h_t11 130 rfl rfl, h_t1 16 rfl rfl, ⟨by decide, by decide, by decide +kernel⟩, by decide⟩
theorem lX12_1322 : Cond.methodLink RX12 1322 mX12_isName.1 ∈ lw_g := h_t11 127 rfl rfl
theorem sX12_isName : Cond.instanceMethod mX12_isName.1 ∈ lw_g ∧ Cond.selects mX12_isName.1.cls mX12_isName.1 mX12_isName.1 ∈ lw_g := ⟨h_t11 129 rfl rfl, h_ins 271 rfl⟩
theorem dX12_ordered_57 : decode cX12_ordered 57 = .ok (.invokevirtual 1322, 3) := by decide +kernel
theorem dX12_ordered_60 : decode cX12_ordered 60 = .ok (.ifCond .eq 22, 3) := by decide +kernel
theorem dX12_ordered_82 : decode cX12_ordered 82 = .ok (.iconst 0, 1) := by decide +kernel
theorem dX12_ordered_63 : decode cX12_ordered 63 = .ok (.iload_n 2, 1) := by decide +kernel
theorem dX12_ordered_64 : decode cX12_ordered 64 = .ok (.bipush 7, 2) := by decide +kernel
theorem dX12_ordered_66 : decode cX12_ordered 66 = .ok (.if_icmp .ne 12, 3) := by decide +kernel
theorem dX12_ordered_78 : decode cX12_ordered 78 = .ok (.iconst 1, 1) := by decide +kernel
theorem dX12_ordered_79 : decode cX12_ordered 79 = .ok (.goto 4, 3) := by decide +kernel
theorem dX12_ordered_69 : decode cX12_ordered 69 = .ok (.aload_n 0, 1) := by decide +kernel
theorem dX12_ordered_70 : decode cX12_ordered 70 = .ok (.iload_n 1, 1) := by decide +kernel
theorem dX12_ordered_71 : decode cX12_ordered 71 = .ok (.iconst 1, 1) := by decide +kernel
theorem dX12_ordered_72 : decode cX12_ordered 72 = .ok (.invokevirtual 1322, 3) := by decide +kernel
theorem dX12_ordered_75 : decode cX12_ordered 75 = .ok (.ifCond .eq 7, 3) := by decide +kernel
theorem dX12_ordered_0 : decode cX12_ordered 0 = .ok (.aload_n 0, 1) := by decide +kernel
theorem dX12_ordered_1 : decode cX12_ordered 1 = .ok (.getfield 1243, 3) := by decide +kernel
theorem dX12_ordered_4 : decode cX12_ordered 4 = .ok (.iload_n 1, 1) := by decide +kernel
theorem dX12_ordered_5 : decode cX12_ordered 5 = .ok (.iaload, 1) := by decide +kernel
theorem dX12_ordered_6 : decode cX12_ordered 6 = .ok (.istore_n 2, 1) := by decide +kernel
theorem dX12_ordered_7 : decode cX12_ordered 7 = .ok (.aload_n 0, 1) := by decide +kernel
theorem dX12_ordered_8 : decode cX12_ordered 8 = .ok (.iload_n 1, 1) := by decide +kernel
theorem kX12_fit : h_ml mX12_fit 1 := ⟨h_t11 123 rfl rfl, h_t1 16 rfl rfl, ⟨by decide, by decide, by decide +kernel⟩, by decide⟩
theorem lX12_1319 : Cond.methodLink RX12 1319 mX12_fit.1 ∈ lw_g := h_t11 120 rfl rfl
theorem sX12_fit : Cond.instanceMethod mX12_fit.1 ∈ lw_g ∧ Cond.selects mX12_fit.1.cls mX12_fit.1 mX12_fit.1 ∈ lw_g := ⟨h_t11 122 rfl rfl, h_ins 270 rfl⟩
theorem dX12_ordered_9 : decode cX12_ordered 9 = .ok (.invokevirtual 1319, 3) := by decide +kernel
theorem dX12_ordered_12 : decode cX12_ordered 12 = .ok (.istore_n 3, 1) := by decide +kernel
theorem dX12_ordered_13 : decode cX12_ordered 13 = .ok (.aload_n 0, 1) := by decide +kernel
theorem dX12_ordered_14 : decode cX12_ordered 14 = .ok (.iload_n 1, 1) := by decide +kernel
theorem dX12_ordered_15 : decode cX12_ordered 15 = .ok (.invokevirtual 14, 3) := by decide +kernel
theorem dX12_ordered_18 : decode cX12_ordered 18 = .ok (.iload_n 3, 1) := by decide +kernel
theorem dX12_ordered_19 : decode cX12_ordered 19 = .ok (.ifCond .eq 63, 3) := by decide +kernel
theorem dX12_ordered_22 : decode cX12_ordered 22 = .ok (.iload_n 2, 1) := by decide +kernel
theorem dX12_ordered_23 : decode cX12_ordered 23 = .ok (.iconst 1, 1) := by decide +kernel
theorem dX12_ordered_24 : decode cX12_ordered 24 = .ok (.if_icmp .eq 54, 3) := by decide +kernel
theorem dX12_ordered_27 : decode cX12_ordered 27 = .ok (.iload_n 2, 1) := by decide +kernel
theorem dX12_ordered_28 : decode cX12_ordered 28 = .ok (.iconst 5, 1) := by decide +kernel
theorem dX12_ordered_29 : decode cX12_ordered 29 = .ok (.if_icmp .eq 49, 3) := by decide +kernel
theorem dX12_ordered_32 : decode cX12_ordered 32 = .ok (.iload_n 2, 1) := by decide +kernel
theorem dX12_ordered_33 : decode cX12_ordered 33 = .ok (.bipush 8, 2) := by decide +kernel
theorem dX12_ordered_35 : decode cX12_ordered 35 = .ok (.if_icmp .eq 43, 3) := by decide +kernel
theorem dX12_ordered_38 : decode cX12_ordered 38 = .ok (.iload_n 2, 1) := by decide +kernel
theorem dX12_ordered_39 : decode cX12_ordered 39 = .ok (.iconst 3, 1) := by decide +kernel
theorem dX12_ordered_40 : decode cX12_ordered 40 = .ok (.if_icmp .ne 14, 3) := by decide +kernel
theorem dX12_ordered_43 : decode cX12_ordered 43 = .ok (.aload_n 0, 1) := by decide +kernel
theorem dX12_ordered_44 : decode cX12_ordered 44 = .ok (.getfield 1189, 3) := by decide +kernel
theorem dX12_ordered_47 : decode cX12_ordered 47 = .ok (.iconst 2, 1) := by decide +kernel
theorem dX12_ordered_48 : decode cX12_ordered 48 = .ok (.iload_n 1, 1) := by decide +kernel
theorem dX12_ordered_49 : decode cX12_ordered 49 = .ok (.imul, 1) := by decide +kernel
theorem dX12_ordered_50 : decode cX12_ordered 50 = .ok (.iaload, 1) := by decide +kernel
theorem dX12_ordered_51 : decode cX12_ordered 51 = .ok (.ifCond .eq 27, 3) := by decide +kernel
def fb_X12_ordered_209  (x1 : Int32) (s : uS) : Option (uS × Bool) := (fn_X12_no x1 kW_205 s).bind fun s2 => some (s2, true)
set_option maxRecDepth 100000 in
set_option maxHeartbeats 4000000 in
theorem xb_X12_ordered_209 {l : Launch} {D : va_G} {A : Nat → ClassId} {B : Nat} {Z : State → Heap → Prop} {vF : Value} (uk : uK B Z vF) (un : uX A B Z)   {x1 : Int32} {s : uS} {r : (uS × Bool)}  (h : fb_X12_ordered_209  x1 s = some r) : GU l D A B Z mX12_ordered 115 (r.1, some (.int (bI r.2))) s 209 [(0, .ref (B + 1079)), (1, .int x1)] [] := by
  unfold fb_X12_ordered_209 at h
  refine uu_aload_n dX12_ordered_209 rfl (List.mem_of_getElem? (i := 0) rfl) ?_
  refine uu_iload_n dX12_ordered_210 rfl (List.mem_of_getElem? (i := 1) rfl) ?_
  obtain ⟨cq1, cp1, cv1, cw1⟩ := uk.2.1 205 _ rfl
  refine uu_ldcwS cv1 dX12_ordered_211 ?_
  obtain ⟨s2, e3, h⟩ := uu_ob h
  refine uu_cv (d1 := 6) (k := 1079) (ci := 12) (T := TX12) (N := 153) (As := [.int x1, .ref cq1]) (st := []) (st' := []) (xc_X12_no uk cw1 e3) so_1079.is (by decide) rfl kX12_no lX12_1304 sX12_no (by decide) (Nat.le_of_ble_eq_true rfl) dX12_ordered_214 rfl ?_
  refine uu_goto (tgt := 228) dX12_ordered_217 (by decide) ?_
  refine uu_iconst (v := 1) dX12_ordered_228 (by decide) ?_
  have hr := Option.some.inj h
  subst hr
  exact uu_zret (x := bI true) rfl (bI_z _) dX12_ordered_229
def fb_X12_ordered_220  (x1 : Int32) (s : uS) : Option (uS × Bool) := (fn_X12_line x1 kW_204 s).bind fun s2 => some (s2, true)
set_option maxRecDepth 100000 in
set_option maxHeartbeats 4000000 in
theorem xb_X12_ordered_220 {l : Launch} {D : va_G} {A : Nat → ClassId} {B : Nat} {Z : State → Heap → Prop} {vF : Value} (uk : uK B Z vF) (un : uX A B Z)   {x1 : Int32} {s : uS} {r : (uS × Bool)}  (h : fb_X12_ordered_220  x1 s = some r) : GU l D A B Z mX12_ordered 115 (r.1, some (.int (bI r.2))) s 220 [(0, .ref (B + 1079)), (1, .int x1)] [] := by
  unfold fb_X12_ordered_220 at h
  refine uu_aload_n dX12_ordered_220 rfl (List.mem_of_getElem? (i := 0) rfl) ?_
  refine uu_iload_n dX12_ordered_221 rfl (List.mem_of_getElem? (i := 1) rfl) ?_
  obtain ⟨cq1, cp1, cv1, cw1⟩ := uk.2.1 204 _ rfl
  refine uu_ldcwS cv1 dX12_ordered_222 ?_
  obtain ⟨s2, e3, h⟩ := uu_ob h
  refine uu_cv (d1 := 5) (k := 1079) (ci := 12) (T := TX12) (N := 153) (As := [.int x1, .ref cq1]) (st := []) (st' := []) (xc_X12_line uk cw1 e3) so_1079.is (by decide) rfl kX12_line lX12_974 sX12_line (by decide) (Nat.le_of_ble_eq_true rfl) dX12_ordered_225 rfl ?_
  refine uu_iconst (v := 1) dX12_ordered_228 (by decide) ?_
  have hr := Option.some.inj h
  subst hr
  exact uu_zret (x := bI true) rfl (bI_z _) dX12_ordered_229
def fb_X12_ordered_83  (x1 : Int32) (x2 : Int32) (bs0 : Bool) (s : uS) : Option (uS × Bool) := if bs0 = true then (if x2 = 0 then ((fn_X12_putScript x1 s).bind fun r2 => some (r2.1, r2.2)) else (if x2 = 1 then ((fn_X12_source x1 0 s).bind fun s4 => (fn_X12_isScript x1 s4).bind fun r6 => if r6.2 = true then ((fn_X12_line x1 kW_204 r6.1).bind fun s10 => some (s10, true)) else (some (r6.1, true))) else (if x2 = 2 then ((iget 20 s 1161 x1).bind fun v12 => if (2000 : Int32) < v12 then (fb_X12_ordered_209 x1 s) else ((fn_X12_scriptOf x1 0 s).bind fun v15 => if 0 ≤ v15 then (fb_X12_ordered_220 x1 s) else ((iget 20 s 1149 x1).bind fun v18 => if v18 = 4 then (fb_X12_ordered_209 x1 s) else (fb_X12_ordered_220 x1 s)))) else (if x2 = 3 then ((fn_X12_setActive x1 s).bind fun r21 => some (r21.1, r21.2)) else (if x2 = 4 then ((fn_X12_getScript x1 s).bind fun r23 => some (r23.1, r23.2)) else (if x2 = 5 then ((fn_X12_listScripts x1 s).bind fun r25 => some (r25.1, r25.2)) else (if x2 = 6 then ((fn_X12_deleteScript x1 s).bind fun r27 => some (r27.1, r27.2)) else (if x2 = 7 then ((fn_X12_renameScript x1 s).bind fun r29 => some (r29.1, r29.2)) else ((fn_X12_line x1 kW_204 s).bind fun s32 => some (s32, true)))))))))) else ((fn_X12_no x1 kW_201 s).bind fun s35 => some (s35, true))
set_option maxRecDepth 100000 in
set_option maxHeartbeats 4000000 in
theorem xb_X12_ordered_83 {l : Launch} {D : va_G} {A : Nat → ClassId} {B : Nat} {Z : State → Heap → Prop} {vF : Value} (uk : uK B Z vF) (un : uX A B Z)   {x1 : Int32} {x2 : Int32} {bs0 : Bool} {s : uS} {r : (uS × Bool)}  (h : fb_X12_ordered_83  x1 x2 bs0 s = some r) : GU l D A B Z mX12_ordered 115 (r.1, some (.int (bI r.2))) s 83 [(0, .ref (B + 1079)), (1, .int x1), (2, .int x2)] [.int (bI bs0)] := by
  unfold fb_X12_ordered_83 at h
  refine uu_istore dX12_ordered_83 (by decide) rfl ?_
  refine uu_iload dX12_ordered_85 (List.mem_of_getElem? (i := 0) rfl) ?_
  refine uu_ifb_ne (tgt := 100) dX12_ordered_87 (by decide) (fun c1 => ?_) (fun c1 => ?_)
  · replace h := uu_pos c1 h
    refine uu_iload_n dX12_ordered_100 rfl (List.mem_of_getElem? (i := 3) rfl) ?_
    by_cases c101_0 : x2 = 0
    · replace h := uu_pos c101_0 h
      refine uu_tabE (tgt := 148) (off := 47) (v := 0) dX12_ordered_101 c101_0 (by decide) (by decide) rfl (by decide) ?_
      refine uu_aload_n dX12_ordered_148 rfl (List.mem_of_getElem? (i := 1) rfl) ?_
      refine uu_iload_n dX12_ordered_149 rfl (List.mem_of_getElem? (i := 2) rfl) ?_
      obtain ⟨r2, e3, h⟩ := uu_ob h
      refine uu_cv (d1 := 114) (k := 1079) (ci := 12) (T := TX12) (N := 153) (As := [.int x1]) (st := []) (st' := [.int (bI r2.2)]) (xc_X12_putScript uk un  e3) so_1079.is (by decide) rfl kX12_putScript lX12_1325 sX12_putScript (by decide) (Nat.le_of_ble_eq_true rfl) dX12_ordered_150 rfl ?_
      have hr := Option.some.inj h
      subst hr
      exact uu_zret (x := bI r2.2) rfl (bI_z _) dX12_ordered_153
    replace h := uu_neg c101_0 h
    by_cases c101_1 : x2 = 1
    · replace h := uu_pos c101_1 h
      refine uu_tabE (tgt := 154) (off := 53) (v := 1) dX12_ordered_101 c101_1 (by decide) (by decide) rfl (by decide) ?_
      refine uu_aload_n dX12_ordered_154 rfl (List.mem_of_getElem? (i := 1) rfl) ?_
      refine uu_iload_n dX12_ordered_155 rfl (List.mem_of_getElem? (i := 2) rfl) ?_
      refine uu_iconst (v := 0) dX12_ordered_156 (by decide) ?_
      obtain ⟨s4, e5, h⟩ := uu_ob h
      refine uu_cv (d1 := 1) (k := 1079) (ci := 12) (T := TX12) (N := 153) (As := [.int x1, .int 0]) (st := []) (st' := []) (xc_X12_source uk  e5) so_1079.is (by decide) rfl kX12_source lX12_1328 sX12_source (by decide) (Nat.le_of_ble_eq_true rfl) dX12_ordered_157 rfl ?_
      refine uu_aload_n dX12_ordered_160 rfl (List.mem_of_getElem? (i := 1) rfl) ?_
      refine uu_iload_n dX12_ordered_161 rfl (List.mem_of_getElem? (i := 2) rfl) ?_
      obtain ⟨r6, e7, h⟩ := uu_ob h
      refine uu_cv (d1 := 113) (k := 1079) (ci := 12) (T := TX12) (N := 153) (As := [.int x1]) (st := []) (st' := [.int (bI r6.2)]) (xc_X12_isScript uk un  e7) so_1079.is (by decide) rfl kX12_isScript lX12_1331 sX12_isScript (by decide) (Nat.le_of_ble_eq_true rfl) dX12_ordered_162 rfl ?_
      refine uu_ifb_eq (tgt := 176) dX12_ordered_165 (by decide) (fun c8 => ?_) (fun c8 => ?_)
      · replace h := uu_neg c8 h
        refine uu_iconst (v := 1) dX12_ordered_176 (by decide) ?_
        have hr := Option.some.inj h
        subst hr
        exact uu_zret (x := bI true) rfl (bI_z _) dX12_ordered_177
      · replace h := uu_pos c8 h
        refine uu_aload_n dX12_ordered_168 rfl (List.mem_of_getElem? (i := 1) rfl) ?_
        refine uu_iload_n dX12_ordered_169 rfl (List.mem_of_getElem? (i := 2) rfl) ?_
        obtain ⟨cq9, cp9, cv9, cw9⟩ := uk.2.1 204 _ rfl
        refine uu_ldcwS cv9 dX12_ordered_170 ?_
        obtain ⟨s10, e11, h⟩ := uu_ob h
        refine uu_cv (d1 := 5) (k := 1079) (ci := 12) (T := TX12) (N := 153) (As := [.int x1, .ref cq9]) (st := []) (st' := []) (xc_X12_line uk cw9 e11) so_1079.is (by decide) rfl kX12_line lX12_974 sX12_line (by decide) (Nat.le_of_ble_eq_true rfl) dX12_ordered_173 rfl ?_
        refine uu_iconst (v := 1) dX12_ordered_176 (by decide) ?_
        have hr := Option.some.inj h
        subst hr
        exact uu_zret (x := bI true) rfl (bI_z _) dX12_ordered_177
    replace h := uu_neg c101_1 h
    by_cases c101_2 : x2 = 2
    · replace h := uu_pos c101_2 h
      refine uu_tabE (tgt := 178) (off := 77) (v := 2) dX12_ordered_101 c101_2 (by decide) (by decide) rfl (by decide) ?_
      refine uu_aload_n dX12_ordered_178 rfl (List.mem_of_getElem? (i := 1) rfl) ?_
      refine uu_geta (ci := 12) (N := 153) fX12_1270 (by decide) so_1079.is (by decide) (c := 1161) (by decide) dX12_ordered_179 ?_
      refine uu_iload_n dX12_ordered_182 rfl (List.mem_of_getElem? (i := 2) rfl) ?_
      obtain ⟨v12, e13, h⟩ := uu_ob h
      refine uu_iald e13 dX12_ordered_183 ?_
      refine uu_sipush (v := 2000) dX12_ordered_184 (by decide) ?_
      refine uu_icmp_gt (tgt := 209) dX12_ordered_187 (by decide) (fun c14 => ?_) (fun c14 => ?_)
      · replace h := uu_pos c14 h
        refine uu_lv [1, 2] (lv' := [(0, .ref (B + 1079)), (1, .int x1)]) rfl ?_
        exact xb_X12_ordered_209 uk un  h
      · replace h := uu_neg c14 h
        refine uu_aload_n dX12_ordered_190 rfl (List.mem_of_getElem? (i := 1) rfl) ?_
        refine uu_iload_n dX12_ordered_191 rfl (List.mem_of_getElem? (i := 2) rfl) ?_
        refine uu_iconst (v := 0) dX12_ordered_192 (by decide) ?_
        obtain ⟨v15, e16, h⟩ := uu_ob h
        refine uu_cv (d1 := 1) (k := 1079) (ci := 12) (T := TX12) (N := 153) (As := [.int x1, .int 0]) (st := []) (st' := [.int v15]) (xc_X12_scriptOf uk  e16) so_1079.is (by decide) rfl kX12_scriptOf lX12_1336 sX12_scriptOf (by decide) (Nat.le_of_ble_eq_true rfl) dX12_ordered_193 rfl ?_
        refine uu_if_ge (tgt := 220) dX12_ordered_196 (by decide) (fun c17 => ?_) (fun c17 => ?_)
        · replace h := uu_pos c17 h
          refine uu_lv [1, 2] (lv' := [(0, .ref (B + 1079)), (1, .int x1)]) rfl ?_
          exact xb_X12_ordered_220 uk un  h
        · replace h := uu_neg c17 h
          refine uu_aload_n dX12_ordered_199 rfl (List.mem_of_getElem? (i := 1) rfl) ?_
          refine uu_geta (ci := 12) (N := 153) fX12_1180 (by decide) so_1079.is (by decide) (c := 1149) (by decide) dX12_ordered_200 ?_
          refine uu_iload_n dX12_ordered_203 rfl (List.mem_of_getElem? (i := 2) rfl) ?_
          obtain ⟨v18, e19, h⟩ := uu_ob h
          refine uu_iald e19 dX12_ordered_204 ?_
          refine uu_iconst (v := 4) dX12_ordered_205 (by decide) ?_
          refine uu_icmp_ne (tgt := 220) dX12_ordered_206 (by decide) (fun c20 => ?_) (fun c20 => ?_)
          · replace h := uu_neg c20 h
            refine uu_lv [1, 2] (lv' := [(0, .ref (B + 1079)), (1, .int x1)]) rfl ?_
            exact xb_X12_ordered_220 uk un  h
          · replace h := uu_pos c20 h
            refine uu_lv [1, 2] (lv' := [(0, .ref (B + 1079)), (1, .int x1)]) rfl ?_
            exact xb_X12_ordered_209 uk un  h
    replace h := uu_neg c101_2 h
    by_cases c101_3 : x2 = 3
    · replace h := uu_pos c101_3 h
      refine uu_tabE (tgt := 230) (off := 129) (v := 3) dX12_ordered_101 c101_3 (by decide) (by decide) rfl (by decide) ?_
      refine uu_aload_n dX12_ordered_230 rfl (List.mem_of_getElem? (i := 1) rfl) ?_
      refine uu_iload_n dX12_ordered_231 rfl (List.mem_of_getElem? (i := 2) rfl) ?_
      obtain ⟨r21, e22, h⟩ := uu_ob h
      refine uu_cv (d1 := 7) (k := 1079) (ci := 12) (T := TX12) (N := 153) (As := [.int x1]) (st := []) (st' := [.int (bI r21.2)]) (xc_X12_setActive uk  e22) so_1079.is (by decide) rfl kX12_setActive lX12_1341 sX12_setActive (by decide) (Nat.le_of_ble_eq_true rfl) dX12_ordered_232 rfl ?_
      have hr := Option.some.inj h
      subst hr
      exact uu_zret (x := bI r21.2) rfl (bI_z _) dX12_ordered_235
    replace h := uu_neg c101_3 h
    by_cases c101_4 : x2 = 4
    · replace h := uu_pos c101_4 h
      refine uu_tabE (tgt := 236) (off := 135) (v := 4) dX12_ordered_101 c101_4 (by decide) (by decide) rfl (by decide) ?_
      refine uu_aload_n dX12_ordered_236 rfl (List.mem_of_getElem? (i := 1) rfl) ?_
      refine uu_iload_n dX12_ordered_237 rfl (List.mem_of_getElem? (i := 2) rfl) ?_
      obtain ⟨r23, e24, h⟩ := uu_ob h
      refine uu_cv (d1 := 7) (k := 1079) (ci := 12) (T := TX12) (N := 153) (As := [.int x1]) (st := []) (st' := [.int (bI r23.2)]) (xc_X12_getScript uk  e24) so_1079.is (by decide) rfl kX12_getScript lX12_1344 sX12_getScript (by decide) (Nat.le_of_ble_eq_true rfl) dX12_ordered_238 rfl ?_
      have hr := Option.some.inj h
      subst hr
      exact uu_zret (x := bI r23.2) rfl (bI_z _) dX12_ordered_241
    replace h := uu_neg c101_4 h
    by_cases c101_5 : x2 = 5
    · replace h := uu_pos c101_5 h
      refine uu_tabE (tgt := 242) (off := 141) (v := 5) dX12_ordered_101 c101_5 (by decide) (by decide) rfl (by decide) ?_
      refine uu_aload_n dX12_ordered_242 rfl (List.mem_of_getElem? (i := 1) rfl) ?_
      refine uu_iload_n dX12_ordered_243 rfl (List.mem_of_getElem? (i := 2) rfl) ?_
      obtain ⟨r25, e26, h⟩ := uu_ob h
      refine uu_cv (d1 := 6) (k := 1079) (ci := 12) (T := TX12) (N := 153) (As := [.int x1]) (st := []) (st' := [.int (bI r25.2)]) (xc_X12_listScripts uk  e26) so_1079.is (by decide) rfl kX12_listScripts lX12_1347 sX12_listScripts (by decide) (Nat.le_of_ble_eq_true rfl) dX12_ordered_244 rfl ?_
      have hr := Option.some.inj h
      subst hr
      exact uu_zret (x := bI r25.2) rfl (bI_z _) dX12_ordered_247
    replace h := uu_neg c101_5 h
    by_cases c101_6 : x2 = 6
    · replace h := uu_pos c101_6 h
      refine uu_tabE (tgt := 248) (off := 147) (v := 6) dX12_ordered_101 c101_6 (by decide) (by decide) rfl (by decide) ?_
      refine uu_aload_n dX12_ordered_248 rfl (List.mem_of_getElem? (i := 1) rfl) ?_
      refine uu_iload_n dX12_ordered_249 rfl (List.mem_of_getElem? (i := 2) rfl) ?_
      obtain ⟨r27, e28, h⟩ := uu_ob h
      refine uu_cv (d1 := 7) (k := 1079) (ci := 12) (T := TX12) (N := 153) (As := [.int x1]) (st := []) (st' := [.int (bI r27.2)]) (xc_X12_deleteScript uk  e28) so_1079.is (by decide) rfl kX12_deleteScript lX12_1350 sX12_deleteScript (by decide) (Nat.le_of_ble_eq_true rfl) dX12_ordered_250 rfl ?_
      have hr := Option.some.inj h
      subst hr
      exact uu_zret (x := bI r27.2) rfl (bI_z _) dX12_ordered_253
    replace h := uu_neg c101_6 h
    by_cases c101_7 : x2 = 7
    · replace h := uu_pos c101_7 h
      refine uu_tabE (tgt := 254) (off := 153) (v := 7) dX12_ordered_101 c101_7 (by decide) (by decide) rfl (by decide) ?_
      refine uu_aload_n dX12_ordered_254 rfl (List.mem_of_getElem? (i := 1) rfl) ?_
      refine uu_iload_n dX12_ordered_255 rfl (List.mem_of_getElem? (i := 2) rfl) ?_
      obtain ⟨r29, e30, h⟩ := uu_ob h
      refine uu_cv (d1 := 7) (k := 1079) (ci := 12) (T := TX12) (N := 153) (As := [.int x1]) (st := []) (st' := [.int (bI r29.2)]) (xc_X12_renameScript uk  e30) so_1079.is (by decide) rfl kX12_renameScript lX12_1353 sX12_renameScript (by decide) (Nat.le_of_ble_eq_true rfl) dX12_ordered_256 rfl ?_
      have hr := Option.some.inj h
      subst hr
      exact uu_zret (x := bI r29.2) rfl (bI_z _) dX12_ordered_259
    replace h := uu_neg c101_7 h
    have cx101 : (x2).toInt < 0 ∨ 7 < (x2).toInt := by
      refine Decidable.byContradiction fun q => ?_
      rcases (show (x2).toInt = 0 ∨ (x2).toInt = 1 ∨ (x2).toInt = 2 ∨ (x2).toInt = 3 ∨ (x2).toInt = 4 ∨ (x2).toInt = 5 ∨ (x2).toInt = 6 ∨ (x2).toInt = 7 by omega) with q | q | q | q | q | q | q | q
      · exact c101_0 (sw_eq q (by decide))
      · exact c101_1 (sw_eq q (by decide))
      · exact c101_2 (sw_eq q (by decide))
      · exact c101_3 (sw_eq q (by decide))
      · exact c101_4 (sw_eq q (by decide))
      · exact c101_5 (sw_eq q (by decide))
      · exact c101_6 (sw_eq q (by decide))
      · exact c101_7 (sw_eq q (by decide))
    refine uu_tableOut (tgt := 260) dX12_ordered_101 cx101 (by decide) ?_
    refine uu_aload_n dX12_ordered_260 rfl (List.mem_of_getElem? (i := 1) rfl) ?_
    refine uu_iload_n dX12_ordered_261 rfl (List.mem_of_getElem? (i := 2) rfl) ?_
    obtain ⟨cq31, cp31, cv31, cw31⟩ := uk.2.1 204 _ rfl
    refine uu_ldcwS cv31 dX12_ordered_262 ?_
    obtain ⟨s32, e33, h⟩ := uu_ob h
    refine uu_cv (d1 := 5) (k := 1079) (ci := 12) (T := TX12) (N := 153) (As := [.int x1, .ref cq31]) (st := []) (st' := []) (xc_X12_line uk cw31 e33) so_1079.is (by decide) rfl kX12_line lX12_974 sX12_line (by decide) (Nat.le_of_ble_eq_true rfl) dX12_ordered_265 rfl ?_
    refine uu_iconst (v := 1) dX12_ordered_268 (by decide) ?_
    have hr := Option.some.inj h
    subst hr
    exact uu_zret (x := bI true) rfl (bI_z _) dX12_ordered_269
  · replace h := uu_neg c1 h
    refine uu_aload_n dX12_ordered_90 rfl (List.mem_of_getElem? (i := 1) rfl) ?_
    refine uu_iload_n dX12_ordered_91 rfl (List.mem_of_getElem? (i := 2) rfl) ?_
    obtain ⟨cq34, cp34, cv34, cw34⟩ := uk.2.1 201 _ rfl
    refine uu_ldcwS cv34 dX12_ordered_92 ?_
    obtain ⟨s35, e36, h⟩ := uu_ob h
    refine uu_cv (d1 := 6) (k := 1079) (ci := 12) (T := TX12) (N := 153) (As := [.int x1, .ref cq34]) (st := []) (st' := []) (xc_X12_no uk cw34 e36) so_1079.is (by decide) rfl kX12_no lX12_1304 sX12_no (by decide) (Nat.le_of_ble_eq_true rfl) dX12_ordered_95 rfl ?_
    refine uu_iconst (v := 1) dX12_ordered_98 (by decide) ?_
    have hr := Option.some.inj h
    subst hr
    exact uu_zret (x := bI true) rfl (bI_z _) dX12_ordered_99
def fb_X12_ordered_54  (x1 : Int32) (x2 : Int32) (s : uS) : Option (uS × Bool) := (fn_X12_isName x1 0 s).bind fun v1 => if v1 = true then (if x2 = 7 then ((fn_X12_isName x1 1 s).bind fun v5 => if v5 = true then (fb_X12_ordered_83 x1 x2 true s) else (fb_X12_ordered_83 x1 x2 false s)) else (fb_X12_ordered_83 x1 x2 true s)) else (fb_X12_ordered_83 x1 x2 false s)
set_option maxRecDepth 100000 in
set_option maxHeartbeats 4000000 in
theorem xb_X12_ordered_54 {l : Launch} {D : va_G} {A : Nat → ClassId} {B : Nat} {Z : State → Heap → Prop} {vF : Value} (uk : uK B Z vF) (un : uX A B Z)   {x1 : Int32} {x2 : Int32} {s : uS} {r : (uS × Bool)}  (h : fb_X12_ordered_54  x1 x2 s = some r) : GU l D A B Z mX12_ordered 115 (r.1, some (.int (bI r.2))) s 54 [(0, .ref (B + 1079)), (1, .int x1), (2, .int x2)] [] := by
  unfold fb_X12_ordered_54 at h
  refine uu_aload_n dX12_ordered_54 rfl (List.mem_of_getElem? (i := 0) rfl) ?_
  refine uu_iload_n dX12_ordered_55 rfl (List.mem_of_getElem? (i := 1) rfl) ?_
  refine uu_iconst (v := 0) dX12_ordered_56 (by decide) ?_
  obtain ⟨v1, e2, h⟩ := uu_ob h
  refine uu_cv (d1 := 1) (k := 1079) (ci := 12) (T := TX12) (N := 153) (As := [.int x1, .int 0]) (st := []) (st' := [.int (bI v1)]) (xc_X12_isName uk  e2) so_1079.is (by decide) rfl kX12_isName lX12_1322 sX12_isName (by decide) (Nat.le_of_ble_eq_true rfl) dX12_ordered_57 rfl ?_
  refine uu_ifb_eq (tgt := 82) dX12_ordered_60 (by decide) (fun c3 => ?_) (fun c3 => ?_)
  · replace h := uu_neg c3 h
    refine uu_iconst (v := 0) dX12_ordered_82 (by decide) ?_
    exact xb_X12_ordered_83 uk un  h
  · replace h := uu_pos c3 h
    refine uu_iload_n dX12_ordered_63 rfl (List.mem_of_getElem? (i := 2) rfl) ?_
    refine uu_bipush (v := 7) dX12_ordered_64 (by decide) ?_
    refine uu_icmp_ne (tgt := 78) dX12_ordered_66 (by decide) (fun c4 => ?_) (fun c4 => ?_)
    · replace h := uu_neg c4 h
      refine uu_iconst (v := 1) dX12_ordered_78 (by decide) ?_
      refine uu_goto (tgt := 83) dX12_ordered_79 (by decide) ?_
      exact xb_X12_ordered_83 uk un  h
    · replace h := uu_pos c4 h
      refine uu_aload_n dX12_ordered_69 rfl (List.mem_of_getElem? (i := 0) rfl) ?_
      refine uu_iload_n dX12_ordered_70 rfl (List.mem_of_getElem? (i := 1) rfl) ?_
      refine uu_iconst (v := 1) dX12_ordered_71 (by decide) ?_
      obtain ⟨v5, e6, h⟩ := uu_ob h
      refine uu_cv (d1 := 1) (k := 1079) (ci := 12) (T := TX12) (N := 153) (As := [.int x1, .int 1]) (st := []) (st' := [.int (bI v5)]) (xc_X12_isName uk  e6) so_1079.is (by decide) rfl kX12_isName lX12_1322 sX12_isName (by decide) (Nat.le_of_ble_eq_true rfl) dX12_ordered_72 rfl ?_
      refine uu_ifb_eq (tgt := 82) dX12_ordered_75 (by decide) (fun c7 => ?_) (fun c7 => ?_)
      · replace h := uu_neg c7 h
        refine uu_iconst (v := 0) dX12_ordered_82 (by decide) ?_
        exact xb_X12_ordered_83 uk un  h
      · replace h := uu_pos c7 h
        refine uu_iconst (v := 1) dX12_ordered_78 (by decide) ?_
        refine uu_goto (tgt := 83) dX12_ordered_79 (by decide) ?_
        exact xb_X12_ordered_83 uk un  h
def fn_X12_ordered (x1 : Int32) (s : uS) : Option (uS × Bool) := (iget 20 s 1159 x1).bind fun v1 => (fn_X12_fit x1 s).bind fun v3 => (fn_X12_fresh x1 s).bind fun s5 => if v3 = true then (if v1 = 1 then (fb_X12_ordered_83 x1 v1 true s5) else (if v1 = 5 then (fb_X12_ordered_83 x1 v1 true s5) else (if v1 = 8 then (fb_X12_ordered_83 x1 v1 true s5) else (if v1 = 3 then ((iget 20 s5 1164 ((2 : Int32) * x1)).bind fun v12 => if v12 = 0 then (fb_X12_ordered_83 x1 v1 true s5) else (fb_X12_ordered_54 x1 v1 s5)) else (fb_X12_ordered_54 x1 v1 s5))))) else (fb_X12_ordered_83 x1 v1 false s5)
set_option maxRecDepth 100000 in
set_option maxHeartbeats 4000000 in
theorem xc_X12_ordered {l : Launch} {D : va_G} {A : Nat → ClassId} {B : Nat} {Z : State → Heap → Prop} {vF : Value} (uk : uK B Z vF) (un : uX A B Z) {x1 : Int32} {s : uS} {r : (uS × Bool)}  (h : fn_X12_ordered x1 s = some r) : CU l D A B Z 115 mX12_ordered s [.ref (B + 1079), .int x1] (r.1, some (.int (bI r.2))) := by
  unfold fn_X12_ordered at h
  refine cu_of rfl uk.1.1 (Nat.le_of_ble_eq_true rfl) ?_
  show GU _ _ _ _ _ _ _ _ _ 0 [(0, .ref (B + 1079)), (1, .int x1)] []
  refine uu_aload_n dX12_ordered_0 rfl (List.mem_of_getElem? (i := 0) rfl) ?_
  refine uu_geta (ci := 12) (N := 153) fX12_1243 (by decide) so_1079.is (by decide) (c := 1159) (by decide) dX12_ordered_1 ?_
  refine uu_iload_n dX12_ordered_4 rfl (List.mem_of_getElem? (i := 1) rfl) ?_
  obtain ⟨v1, e2, h⟩ := uu_ob h
  refine uu_iald e2 dX12_ordered_5 ?_
  refine uu_istore_n dX12_ordered_6 rfl (by decide) rfl ?_
  refine uu_aload_n dX12_ordered_7 rfl (List.mem_of_getElem? (i := 1) rfl) ?_
  refine uu_iload_n dX12_ordered_8 rfl (List.mem_of_getElem? (i := 2) rfl) ?_
  obtain ⟨v3, e4, h⟩ := uu_ob h
  refine uu_cv (d1 := 1) (k := 1079) (ci := 12) (T := TX12) (N := 153) (As := [.int x1]) (st := []) (st' := [.int (bI v3)]) (xc_X12_fit uk  e4) so_1079.is (by decide) rfl kX12_fit lX12_1319 sX12_fit (by decide) (Nat.le_of_ble_eq_true rfl) dX12_ordered_9 rfl ?_
  refine uu_istore_n dX12_ordered_12 rfl (by decide) rfl ?_
  refine uu_aload_n dX12_ordered_13 rfl (List.mem_of_getElem? (i := 2) rfl) ?_
  refine uu_iload_n dX12_ordered_14 rfl (List.mem_of_getElem? (i := 3) rfl) ?_
  obtain ⟨s5, e6, h⟩ := uu_ob h
  refine uu_cv (d1 := 0) (k := 1079) (ci := 12) (T := TX12) (N := 153) (As := [.int x1]) (st := []) (st' := []) (xc_X12_fresh uk  e6) so_1079.is (by decide) rfl kX12_fresh lX12_14 sX12_fresh (by decide) (Nat.le_of_ble_eq_true rfl) dX12_ordered_15 rfl ?_
  refine uu_iload_n dX12_ordered_18 rfl (List.mem_of_getElem? (i := 0) rfl) ?_
  refine uu_ifb_eq (tgt := 82) dX12_ordered_19 (by decide) (fun c7 => ?_) (fun c7 => ?_)
  · replace h := uu_neg c7 h
    refine uu_iconst (v := 0) dX12_ordered_82 (by decide) ?_
    refine uu_lv [2, 3, 1] (lv' := [(0, .ref (B + 1079)), (1, .int x1), (2, .int v1)]) rfl ?_
    exact xb_X12_ordered_83 uk un  h
  · replace h := uu_pos c7 h
    refine uu_iload_n dX12_ordered_22 rfl (List.mem_of_getElem? (i := 1) rfl) ?_
    refine uu_iconst (v := 1) dX12_ordered_23 (by decide) ?_
    refine uu_icmp_eq (tgt := 78) dX12_ordered_24 (by decide) (fun c8 => ?_) (fun c8 => ?_)
    · replace h := uu_pos c8 h
      refine uu_iconst (v := 1) dX12_ordered_78 (by decide) ?_
      refine uu_goto (tgt := 83) dX12_ordered_79 (by decide) ?_
      refine uu_lv [2, 3, 1] (lv' := [(0, .ref (B + 1079)), (1, .int x1), (2, .int v1)]) rfl ?_
      exact xb_X12_ordered_83 uk un  h
    · replace h := uu_neg c8 h
      refine uu_iload_n dX12_ordered_27 rfl (List.mem_of_getElem? (i := 1) rfl) ?_
      refine uu_iconst (v := 5) dX12_ordered_28 (by decide) ?_
      refine uu_icmp_eq (tgt := 78) dX12_ordered_29 (by decide) (fun c9 => ?_) (fun c9 => ?_)
      · replace h := uu_pos c9 h
        refine uu_iconst (v := 1) dX12_ordered_78 (by decide) ?_
        refine uu_goto (tgt := 83) dX12_ordered_79 (by decide) ?_
        refine uu_lv [2, 3, 1] (lv' := [(0, .ref (B + 1079)), (1, .int x1), (2, .int v1)]) rfl ?_
        exact xb_X12_ordered_83 uk un  h
      · replace h := uu_neg c9 h
        refine uu_iload_n dX12_ordered_32 rfl (List.mem_of_getElem? (i := 1) rfl) ?_
        refine uu_bipush (v := 8) dX12_ordered_33 (by decide) ?_
        refine uu_icmp_eq (tgt := 78) dX12_ordered_35 (by decide) (fun c10 => ?_) (fun c10 => ?_)
        · replace h := uu_pos c10 h
          refine uu_iconst (v := 1) dX12_ordered_78 (by decide) ?_
          refine uu_goto (tgt := 83) dX12_ordered_79 (by decide) ?_
          refine uu_lv [2, 3, 1] (lv' := [(0, .ref (B + 1079)), (1, .int x1), (2, .int v1)]) rfl ?_
          exact xb_X12_ordered_83 uk un  h
        · replace h := uu_neg c10 h
          refine uu_iload_n dX12_ordered_38 rfl (List.mem_of_getElem? (i := 1) rfl) ?_
          refine uu_iconst (v := 3) dX12_ordered_39 (by decide) ?_
          refine uu_icmp_ne (tgt := 54) dX12_ordered_40 (by decide) (fun c11 => ?_) (fun c11 => ?_)
          · replace h := uu_neg c11 h
            refine uu_lv [2, 3, 1] (lv' := [(0, .ref (B + 1079)), (1, .int x1), (2, .int v1)]) rfl ?_
            exact xb_X12_ordered_54 uk un  h
          · replace h := uu_pos c11 h
            refine uu_aload_n dX12_ordered_43 rfl (List.mem_of_getElem? (i := 2) rfl) ?_
            refine uu_geta (ci := 12) (N := 153) fX12_1189 (by decide) so_1079.is (by decide) (c := 1164) (by decide) dX12_ordered_44 ?_
            refine uu_iconst (v := 2) dX12_ordered_47 (by decide) ?_
            refine uu_iload_n dX12_ordered_48 rfl (List.mem_of_getElem? (i := 3) rfl) ?_
            refine uu_imul dX12_ordered_49 ?_
            obtain ⟨v12, e13, h⟩ := uu_ob h
            refine uu_iald e13 dX12_ordered_50 ?_
            refine uu_if_eq (tgt := 78) dX12_ordered_51 (by decide) (fun c14 => ?_) (fun c14 => ?_)
            · replace h := uu_pos c14 h
              refine uu_iconst (v := 1) dX12_ordered_78 (by decide) ?_
              refine uu_goto (tgt := 83) dX12_ordered_79 (by decide) ?_
              refine uu_lv [2, 3, 1] (lv' := [(0, .ref (B + 1079)), (1, .int x1), (2, .int v1)]) rfl ?_
              exact xb_X12_ordered_83 uk un  h
            · replace h := uu_neg c14 h
              refine uu_lv [2, 3, 1] (lv' := [(0, .ref (B + 1079)), (1, .int x1), (2, .int v1)]) rfl ?_
              exact xb_X12_ordered_54 uk un  h
theorem dX12_manageIn_277 : decode cX12_manageIn 277 = .ok (.aload_n 0, 1) := by decide +kernel
theorem dX12_manageIn_278 : decode cX12_manageIn 278 = .ok (.getfield 1255, 3) := by decide +kernel
theorem dX12_manageIn_281 : decode cX12_manageIn 281 = .ok (.iload_n 1, 1) := by decide +kernel
theorem dX12_manageIn_282 : decode cX12_manageIn 282 = .ok (.iload_n 2, 1) := by decide +kernel
theorem dX12_manageIn_283 : decode cX12_manageIn 283 = .ok (.bipush 13, 2) := by decide +kernel
theorem dX12_manageIn_285 : decode cX12_manageIn 285 = .ok (.if_icmp .ne 7, 3) := by decide +kernel
theorem dX12_manageIn_292 : decode cX12_manageIn 292 = .ok (.iconst 0, 1) := by decide +kernel
theorem dX12_manageIn_293 : decode cX12_manageIn 293 = .ok (.bastore, 1) := by decide +kernel
theorem dX12_manageIn_294 : decode cX12_manageIn 294 = .ok (.iconst 1, 1) := by decide +kernel
theorem dX12_manageIn_295 : decode cX12_manageIn 295 = .ok (.ireturn, 1) := by decide +kernel
theorem dX12_manageIn_288 : decode cX12_manageIn 288 = .ok (.iconst 1, 1) := by decide +kernel
theorem dX12_manageIn_289 : decode cX12_manageIn 289 = .ok (.goto 4, 3) := by decide +kernel
theorem dX12_manageIn_0 : decode cX12_manageIn 0 = .ok (.aload_n 0, 1) := by decide +kernel
theorem dX12_manageIn_1 : decode cX12_manageIn 1 = .ok (.getfield 1252, 3) := by decide +kernel
theorem dX12_manageIn_4 : decode cX12_manageIn 4 = .ok (.iload_n 1, 1) := by decide +kernel
theorem dX12_manageIn_5 : decode cX12_manageIn 5 = .ok (.iaload, 1) := by decide +kernel
theorem dX12_manageIn_6 : decode cX12_manageIn 6 = .ok (.tableswitch 241 0 11 #[62, 69, 76, 83, 83, 90, 97, 120, 143, 208, 215, 222], 62) := by decide +kernel
theorem dX12_manageIn_68 : decode cX12_manageIn 68 = .ok (.aload_n 0, 1) := by decide +kernel
theorem dX12_manageIn_69 : decode cX12_manageIn 69 = .ok (.iload_n 1, 1) := by decide +kernel
theorem dX12_manageIn_70 : decode cX12_manageIn 70 = .ok (.iload_n 2, 1) := by decide +kernel
theorem kX12_wordIn : h_ml mX12_wordIn 2 := ⟨h_t11 42 rfl rfl, h_t1 16 rfl rfl, ⟨by decide, by decide, by decide +kernel⟩, by decide⟩
theorem lX12_1290 : Cond.methodLink RX12 1290 mX12_wordIn.1 ∈ lw_g := h_t11 39 rfl rfl
theorem sX12_wordIn : Cond.instanceMethod mX12_wordIn.1 ∈ lw_g ∧ Cond.selects mX12_wordIn.1.cls mX12_wordIn.1 mX12_wordIn.1 ∈ lw_g := ⟨h_t11 41 rfl rfl, h_ins 253 rfl⟩
theorem dX12_manageIn_71 : decode cX12_manageIn 71 = .ok (.invokevirtual 1290, 3) := by decide +kernel
theorem dX12_manageIn_74 : decode cX12_manageIn 74 = .ok (.ireturn, 1) := by decide +kernel
theorem dX12_manageIn_75 : decode cX12_manageIn 75 = .ok (.aload_n 0, 1) := by decide +kernel
theorem dX12_manageIn_76 : decode cX12_manageIn 76 = .ok (.iload_n 1, 1) := by decide +kernel
theorem dX12_manageIn_77 : decode cX12_manageIn 77 = .ok (.iload_n 2, 1) := by decide +kernel
theorem dX12_manageIn_78 : decode cX12_manageIn 78 = .ok (.invokevirtual 1264, 3) := by decide +kernel
theorem dX12_manageIn_81 : decode cX12_manageIn 81 = .ok (.ireturn, 1) := by decide +kernel
theorem dX12_manageIn_82 : decode cX12_manageIn 82 = .ok (.aload_n 0, 1) := by decide +kernel
theorem dX12_manageIn_83 : decode cX12_manageIn 83 = .ok (.iload_n 1, 1) := by decide +kernel
theorem dX12_manageIn_84 : decode cX12_manageIn 84 = .ok (.iload_n 2, 1) := by decide +kernel
theorem kX12_beginIn : h_ml mX12_beginIn 2 := ⟨h_t11 75 rfl rfl, h_t1 16 rfl rfl, ⟨by decide, by decide, by decide +kernel⟩, by decide⟩
theorem lX12_1293 : Cond.methodLink RX12 1293 mX12_beginIn.1 ∈ lw_g := h_t11 72 rfl rfl
theorem sX12_beginIn : Cond.instanceMethod mX12_beginIn.1 ∈ lw_g ∧ Cond.selects mX12_beginIn.1.cls mX12_beginIn.1 mX12_beginIn.1 ∈ lw_g := ⟨h_t11 74 rfl rfl, h_ins 259 rfl⟩
theorem dX12_manageIn_85 : decode cX12_manageIn 85 = .ok (.invokevirtual 1293, 3) := by decide +kernel
theorem dX12_manageIn_88 : decode cX12_manageIn 88 = .ok (.ireturn, 1) := by decide +kernel
theorem dX12_manageIn_89 : decode cX12_manageIn 89 = .ok (.aload_n 0, 1) := by decide +kernel
theorem dX12_manageIn_90 : decode cX12_manageIn 90 = .ok (.iload_n 1, 1) := by decide +kernel
theorem dX12_manageIn_91 : decode cX12_manageIn 91 = .ok (.iload_n 2, 1) := by decide +kernel
theorem kX12_quotedIn : h_ml mX12_quotedIn 2 := ⟨h_t11 84 rfl rfl, h_t1 16 rfl rfl, ⟨by decide, by decide, by decide +kernel⟩, by decide⟩
theorem lX12_1296 : Cond.methodLink RX12 1296 mX12_quotedIn.1 ∈ lw_g := h_t11 81 rfl rfl
theorem sX12_quotedIn : Cond.instanceMethod mX12_quotedIn.1 ∈ lw_g ∧ Cond.selects mX12_quotedIn.1.cls mX12_quotedIn.1 mX12_quotedIn.1 ∈ lw_g := ⟨h_t11 83 rfl rfl, h_ins 261 rfl⟩
theorem dX12_manageIn_92 : decode cX12_manageIn 92 = .ok (.invokevirtual 1296, 3) := by decide +kernel
theorem dX12_manageIn_95 : decode cX12_manageIn 95 = .ok (.ireturn, 1) := by decide +kernel
theorem dX12_manageIn_96 : decode cX12_manageIn 96 = .ok (.aload_n 0, 1) := by decide +kernel
theorem dX12_manageIn_97 : decode cX12_manageIn 97 = .ok (.iload_n 1, 1) := by decide +kernel
theorem dX12_manageIn_98 : decode cX12_manageIn 98 = .ok (.iload_n 2, 1) := by decide +kernel
theorem kX12_countIn : h_ml mX12_countIn 2 := ⟨h_t11 100 rfl rfl, h_t1 16 rfl rfl, ⟨by decide, by decide, by decide +kernel⟩, by decide⟩
theorem lX12_1299 : Cond.methodLink RX12 1299 mX12_countIn.1 ∈ lw_g := h_t11 97 rfl rfl
theorem sX12_countIn : Cond.instanceMethod mX12_countIn.1 ∈ lw_g ∧ Cond.selects mX12_countIn.1.cls mX12_countIn.1 mX12_countIn.1 ∈ lw_g := ⟨h_t11 99 rfl rfl, h_ins 265 rfl⟩
theorem dX12_manageIn_99 : decode cX12_manageIn 99 = .ok (.invokevirtual 1299, 3) := by decide +kernel
theorem dX12_manageIn_102 : decode cX12_manageIn 102 = .ok (.ireturn, 1) := by decide +kernel
theorem dX12_manageIn_103 : decode cX12_manageIn 103 = .ok (.iload_n 2, 1) := by decide +kernel
theorem dX12_manageIn_104 : decode cX12_manageIn 104 = .ok (.bipush 125, 2) := by decide +kernel
theorem dX12_manageIn_106 : decode cX12_manageIn 106 = .ok (.if_icmp .ne 13, 3) := by decide +kernel
theorem dX12_manageIn_119 : decode cX12_manageIn 119 = .ok (.aload_n 0, 1) := by decide +kernel
theorem dX12_manageIn_120 : decode cX12_manageIn 120 = .ok (.iload_n 1, 1) := by decide +kernel
theorem dX12_manageIn_121 : decode cX12_manageIn 121 = .ok (.iload_n 2, 1) := by decide +kernel
theorem dX12_manageIn_122 : decode cX12_manageIn 122 = .ok (.invokevirtual 1258, 3) := by decide +kernel
theorem dX12_manageIn_125 : decode cX12_manageIn 125 = .ok (.ireturn, 1) := by decide +kernel
theorem dX12_manageIn_109 : decode cX12_manageIn 109 = .ok (.aload_n 0, 1) := by decide +kernel
theorem dX12_manageIn_110 : decode cX12_manageIn 110 = .ok (.iload_n 1, 1) := by decide +kernel
theorem dX12_manageIn_111 : decode cX12_manageIn 111 = .ok (.bipush 7, 2) := by decide +kernel
theorem dX12_manageIn_113 : decode cX12_manageIn 113 = .ok (.invokevirtual 1267, 3) := by decide +kernel
theorem dX12_manageIn_116 : decode cX12_manageIn 116 = .ok (.goto 9, 3) := by decide +kernel
theorem dX12_manageIn_126 : decode cX12_manageIn 126 = .ok (.iload_n 2, 1) := by decide +kernel
theorem dX12_manageIn_127 : decode cX12_manageIn 127 = .ok (.bipush 13, 2) := by decide +kernel
theorem dX12_manageIn_129 : decode cX12_manageIn 129 = .ok (.if_icmp .ne 13, 3) := by decide +kernel
theorem dX12_manageIn_142 : decode cX12_manageIn 142 = .ok (.aload_n 0, 1) := by decide +kernel
theorem dX12_manageIn_143 : decode cX12_manageIn 143 = .ok (.iload_n 1, 1) := by decide +kernel
theorem dX12_manageIn_144 : decode cX12_manageIn 144 = .ok (.iload_n 2, 1) := by decide +kernel
theorem dX12_manageIn_145 : decode cX12_manageIn 145 = .ok (.invokevirtual 1258, 3) := by decide +kernel
theorem dX12_manageIn_148 : decode cX12_manageIn 148 = .ok (.ireturn, 1) := by decide +kernel
theorem dX12_manageIn_132 : decode cX12_manageIn 132 = .ok (.aload_n 0, 1) := by decide +kernel
theorem dX12_manageIn_133 : decode cX12_manageIn 133 = .ok (.iload_n 1, 1) := by decide +kernel
theorem dX12_manageIn_134 : decode cX12_manageIn 134 = .ok (.bipush 8, 2) := by decide +kernel
theorem dX12_manageIn_136 : decode cX12_manageIn 136 = .ok (.invokevirtual 1267, 3) := by decide +kernel
theorem dX12_manageIn_139 : decode cX12_manageIn 139 = .ok (.goto 9, 3) := by decide +kernel
theorem dX12_manageIn_149 : decode cX12_manageIn 149 = .ok (.iload_n 2, 1) := by decide +kernel
theorem dX12_manageIn_150 : decode cX12_manageIn 150 = .ok (.bipush 10, 2) := by decide +kernel
theorem dX12_manageIn_152 : decode cX12_manageIn 152 = .ok (.if_icmp .eq 10, 3) := by decide +kernel
theorem dX12_manageIn_162 : decode cX12_manageIn 162 = .ok (.aload_n 0, 1) := by decide +kernel
theorem dX12_manageIn_163 : decode cX12_manageIn 163 = .ok (.getfield 1270, 3) := by decide +kernel
theorem dX12_manageIn_166 : decode cX12_manageIn 166 = .ok (.iload_n 1, 1) := by decide +kernel
theorem dX12_manageIn_167 : decode cX12_manageIn 167 = .ok (.iaload, 1) := by decide +kernel
theorem dX12_manageIn_168 : decode cX12_manageIn 168 = .ok (.sipush 2000, 3) := by decide +kernel
theorem dX12_manageIn_171 : decode cX12_manageIn 171 = .ok (.if_icmp .le 18, 3) := by decide +kernel
theorem dX12_manageIn_189 : decode cX12_manageIn 189 = .ok (.aload_n 0, 1) := by decide +kernel
theorem dX12_manageIn_190 : decode cX12_manageIn 190 = .ok (.getfield 1270, 3) := by decide +kernel
theorem dX12_manageIn_193 : decode cX12_manageIn 193 = .ok (.iload_n 1, 1) := by decide +kernel
theorem dX12_manageIn_194 : decode cX12_manageIn 194 = .ok (.iaload, 1) := by decide +kernel
theorem dX12_manageIn_195 : decode cX12_manageIn 195 = .ok (.ifCond .ne 11, 3) := by decide +kernel
theorem dX12_manageIn_206 : decode cX12_manageIn 206 = .ok (.aload_n 0, 1) := by decide +kernel
theorem dX12_manageIn_207 : decode cX12_manageIn 207 = .ok (.iload_n 1, 1) := by decide +kernel
theorem dX12_manageIn_208 : decode cX12_manageIn 208 = .ok (.bipush 9, 2) := by decide +kernel
theorem dX12_manageIn_210 : decode cX12_manageIn 210 = .ok (.invokevirtual 1267, 3) := by decide +kernel
theorem dX12_manageIn_213 : decode cX12_manageIn 213 = .ok (.ireturn, 1) := by decide +kernel
theorem dX12_manageIn_198 : decode cX12_manageIn 198 = .ok (.aload_n 0, 1) := by decide +kernel
theorem dX12_manageIn_199 : decode cX12_manageIn 199 = .ok (.iload_n 1, 1) := by decide +kernel
theorem dX12_manageIn_200 : decode cX12_manageIn 200 = .ok (.invokevirtual 1281, 3) := by decide +kernel
theorem dX12_manageIn_203 : decode cX12_manageIn 203 = .ok (.goto 10, 3) := by decide +kernel
theorem dX12_manageIn_174 : decode cX12_manageIn 174 = .ok (.aload_n 0, 1) := by decide +kernel
theorem dX12_manageIn_175 : decode cX12_manageIn 175 = .ok (.iload_n 1, 1) := by decide +kernel
theorem dX12_manageIn_176 : decode cX12_manageIn 176 = .ok (.ldc_w 1302, 3) := by decide +kernel
theorem dX12_manageIn_179 : decode cX12_manageIn 179 = .ok (.invokevirtual 1304, 3) := by decide +kernel
theorem dX12_manageIn_182 : decode cX12_manageIn 182 = .ok (.aload_n 0, 1) := by decide +kernel
theorem dX12_manageIn_183 : decode cX12_manageIn 183 = .ok (.iload_n 1, 1) := by decide +kernel
theorem dX12_manageIn_184 : decode cX12_manageIn 184 = .ok (.invokevirtual 14, 3) := by decide +kernel
theorem dX12_manageIn_187 : decode cX12_manageIn 187 = .ok (.iconst 1, 1) := by decide +kernel
theorem dX12_manageIn_188 : decode cX12_manageIn 188 = .ok (.ireturn, 1) := by decide +kernel
theorem dX12_manageIn_155 : decode cX12_manageIn 155 = .ok (.aload_n 0, 1) := by decide +kernel
theorem dX12_manageIn_156 : decode cX12_manageIn 156 = .ok (.iload_n 1, 1) := by decide +kernel
theorem dX12_manageIn_157 : decode cX12_manageIn 157 = .ok (.iload_n 2, 1) := by decide +kernel
theorem dX12_manageIn_158 : decode cX12_manageIn 158 = .ok (.invokevirtual 1258, 3) := by decide +kernel
theorem dX12_manageIn_161 : decode cX12_manageIn 161 = .ok (.ireturn, 1) := by decide +kernel
theorem dX12_manageIn_214 : decode cX12_manageIn 214 = .ok (.aload_n 0, 1) := by decide +kernel
theorem dX12_manageIn_215 : decode cX12_manageIn 215 = .ok (.iload_n 1, 1) := by decide +kernel
theorem dX12_manageIn_216 : decode cX12_manageIn 216 = .ok (.iload_n 2, 1) := by decide +kernel
theorem kX12_literalIn : h_ml mX12_literalIn 2 := ⟨h_t11 111 rfl rfl, h_t1 16 rfl rfl, ⟨by decide, by decide, by decide +kernel⟩, by decide⟩
theorem lX12_1306 : Cond.methodLink RX12 1306 mX12_literalIn.1 ∈ lw_g := h_t11 108 rfl rfl
theorem sX12_literalIn : Cond.instanceMethod mX12_literalIn.1 ∈ lw_g ∧ Cond.selects mX12_literalIn.1.cls mX12_literalIn.1 mX12_literalIn.1 ∈ lw_g := ⟨h_t11 110 rfl rfl, h_ins 267 rfl⟩
theorem dX12_manageIn_217 : decode cX12_manageIn 217 = .ok (.invokevirtual 1306, 3) := by decide +kernel
theorem dX12_manageIn_220 : decode cX12_manageIn 220 = .ok (.ireturn, 1) := by decide +kernel
theorem dX12_manageIn_221 : decode cX12_manageIn 221 = .ok (.aload_n 0, 1) := by decide +kernel
theorem dX12_manageIn_222 : decode cX12_manageIn 222 = .ok (.iload_n 1, 1) := by decide +kernel
theorem dX12_manageIn_223 : decode cX12_manageIn 223 = .ok (.iload_n 2, 1) := by decide +kernel
theorem kX12_numberIn : h_ml mX12_numberIn 2 := ⟨h_t11 115 rfl rfl, h_t1 16 rfl rfl, ⟨by decide, by decide, by decide +kernel⟩, by decide⟩
theorem lX12_1309 : Cond.methodLink RX12 1309 mX12_numberIn.1 ∈ lw_g := h_t11 112 rfl rfl
theorem sX12_numberIn : Cond.instanceMethod mX12_numberIn.1 ∈ lw_g ∧ Cond.selects mX12_numberIn.1.cls mX12_numberIn.1 mX12_numberIn.1 ∈ lw_g := ⟨h_t11 114 rfl rfl, h_ins 268 rfl⟩
theorem dX12_manageIn_224 : decode cX12_manageIn 224 = .ok (.invokevirtual 1309, 3) := by decide +kernel
theorem dX12_manageIn_227 : decode cX12_manageIn 227 = .ok (.ireturn, 1) := by decide +kernel
theorem dX12_manageIn_228 : decode cX12_manageIn 228 = .ok (.iload_n 2, 1) := by decide +kernel
theorem dX12_manageIn_229 : decode cX12_manageIn 229 = .ok (.bipush 10, 2) := by decide +kernel
theorem dX12_manageIn_231 : decode cX12_manageIn 231 = .ok (.if_icmp .eq 10, 3) := by decide +kernel
theorem dX12_manageIn_241 : decode cX12_manageIn 241 = .ok (.aload_n 0, 1) := by decide +kernel
theorem dX12_manageIn_242 : decode cX12_manageIn 242 = .ok (.iload_n 1, 1) := by decide +kernel
theorem kX12_ordered : h_ml mX12_ordered 1 := ⟨h_t11 119 rfl rfl, h_t1 16 rfl rfl, ⟨by decide, by decide, by decide +kernel⟩, by decide⟩
theorem lX12_1312 : Cond.methodLink RX12 1312 mX12_ordered.1 ∈ lw_g := h_t11 116 rfl rfl
theorem sX12_ordered : Cond.instanceMethod mX12_ordered.1 ∈ lw_g ∧ Cond.selects mX12_ordered.1.cls mX12_ordered.1 mX12_ordered.1 ∈ lw_g := ⟨h_t11 118 rfl rfl, h_ins 269 rfl⟩
theorem dX12_manageIn_243 : decode cX12_manageIn 243 = .ok (.invokevirtual 1312, 3) := by decide +kernel
theorem dX12_manageIn_246 : decode cX12_manageIn 246 = .ok (.ireturn, 1) := by decide +kernel
theorem dX12_manageIn_234 : decode cX12_manageIn 234 = .ok (.aload_n 0, 1) := by decide +kernel
theorem dX12_manageIn_235 : decode cX12_manageIn 235 = .ok (.iload_n 1, 1) := by decide +kernel
theorem dX12_manageIn_236 : decode cX12_manageIn 236 = .ok (.iload_n 2, 1) := by decide +kernel
theorem dX12_manageIn_237 : decode cX12_manageIn 237 = .ok (.invokevirtual 1258, 3) := by decide +kernel
theorem dX12_manageIn_240 : decode cX12_manageIn 240 = .ok (.ireturn, 1) := by decide +kernel
theorem dX12_manageIn_247 : decode cX12_manageIn 247 = .ok (.iload_n 2, 1) := by decide +kernel
theorem dX12_manageIn_248 : decode cX12_manageIn 248 = .ok (.bipush 10, 2) := by decide +kernel
theorem dX12_manageIn_250 : decode cX12_manageIn 250 = .ok (.if_icmp .ne 27, 3) := by decide +kernel
theorem dX12_manageIn_253 : decode cX12_manageIn 253 = .ok (.aload_n 0, 1) := by decide +kernel
theorem dX12_manageIn_254 : decode cX12_manageIn 254 = .ok (.getfield 1255, 3) := by decide +kernel
theorem dX12_manageIn_257 : decode cX12_manageIn 257 = .ok (.iload_n 1, 1) := by decide +kernel
theorem dX12_manageIn_258 : decode cX12_manageIn 258 = .ok (.baload, 1) := by decide +kernel
theorem dX12_manageIn_259 : decode cX12_manageIn 259 = .ok (.ifCond .eq 18, 3) := by decide +kernel
theorem dX12_manageIn_262 : decode cX12_manageIn 262 = .ok (.aload_n 0, 1) := by decide +kernel
theorem dX12_manageIn_263 : decode cX12_manageIn 263 = .ok (.iload_n 1, 1) := by decide +kernel
theorem dX12_manageIn_264 : decode cX12_manageIn 264 = .ok (.ldc_w 1302, 3) := by decide +kernel
theorem dX12_manageIn_267 : decode cX12_manageIn 267 = .ok (.invokevirtual 1304, 3) := by decide +kernel
theorem dX12_manageIn_270 : decode cX12_manageIn 270 = .ok (.aload_n 0, 1) := by decide +kernel
theorem dX12_manageIn_271 : decode cX12_manageIn 271 = .ok (.iload_n 1, 1) := by decide +kernel
theorem dX12_manageIn_272 : decode cX12_manageIn 272 = .ok (.invokevirtual 14, 3) := by decide +kernel
theorem dX12_manageIn_275 : decode cX12_manageIn 275 = .ok (.iconst 1, 1) := by decide +kernel
theorem dX12_manageIn_276 : decode cX12_manageIn 276 = .ok (.ireturn, 1) := by decide +kernel
def fb_X12_manageIn_277  (x1 : Int32) (x2 : Int32) (s : uS) : Option (uS × Bool) := if x2 = 13 then ((iput 22 s 1163 x1 1).bind fun s4 => some (s4, true)) else ((iput 22 s 1163 x1 0).bind fun s2 => some (s2, true))
set_option maxRecDepth 100000 in
set_option maxHeartbeats 4000000 in
theorem xb_X12_manageIn_277 {l : Launch} {D : va_G} {A : Nat → ClassId} {B : Nat} {Z : State → Heap → Prop} {vF : Value} (uk : uK B Z vF) (un : uX A B Z)   {x1 : Int32} {x2 : Int32} {s : uS} {r : (uS × Bool)}  (h : fb_X12_manageIn_277  x1 x2 s = some r) : GU l D A B Z mX12_manageIn 116 (r.1, some (.int (bI r.2))) s 277 [(0, .ref (B + 1079)), (1, .int x1), (2, .int x2)] [] := by
  unfold fb_X12_manageIn_277 at h
  refine uu_aload_n dX12_manageIn_277 rfl (List.mem_of_getElem? (i := 0) rfl) ?_
  refine uu_geta (ci := 12) (N := 153) fX12_1255 (by decide) so_1079.is (by decide) (c := 1163) (by decide) dX12_manageIn_278 ?_
  refine uu_iload_n dX12_manageIn_281 rfl (List.mem_of_getElem? (i := 1) rfl) ?_
  refine uu_iload_n dX12_manageIn_282 rfl (List.mem_of_getElem? (i := 2) rfl) ?_
  refine uu_bipush (v := 13) dX12_manageIn_283 (by decide) ?_
  refine uu_icmp_ne (tgt := 292) dX12_manageIn_285 (by decide) (fun c1 => ?_) (fun c1 => ?_)
  · replace h := uu_neg c1 h
    refine uu_iconst (v := 0) dX12_manageIn_292 (by decide) ?_
    obtain ⟨s2, e3, h⟩ := uu_ob h
    refine uu_zast e3 dX12_manageIn_293 ?_
    refine uu_iconst (v := 1) dX12_manageIn_294 (by decide) ?_
    have hr := Option.some.inj h
    subst hr
    exact uu_zret (x := bI true) rfl (bI_z _) dX12_manageIn_295
  · replace h := uu_pos c1 h
    refine uu_iconst (v := 1) dX12_manageIn_288 (by decide) ?_
    refine uu_goto (tgt := 293) dX12_manageIn_289 (by decide) ?_
    obtain ⟨s4, e5, h⟩ := uu_ob h
    refine uu_zast e5 dX12_manageIn_293 ?_
    refine uu_iconst (v := 1) dX12_manageIn_294 (by decide) ?_
    have hr := Option.some.inj h
    subst hr
    exact uu_zret (x := bI true) rfl (bI_z _) dX12_manageIn_295
def fn_X12_manageIn (x1 : Int32) (x2 : Int32) (s : uS) : Option (uS × Bool) := (iget 20 s 1156 x1).bind fun v1 => if v1 = 0 then ((fn_X12_wordIn x1 x2 s).bind fun r3 => some (r3.1, r3.2)) else (if v1 = 1 then ((fn_X12_behindIn x1 x2 s).bind fun r5 => some (r5.1, r5.2)) else (if v1 = 2 then ((fn_X12_beginIn x1 x2 s).bind fun r7 => some (r7.1, r7.2)) else (if v1 = 3 then ((fn_X12_quotedIn x1 x2 s).bind fun r9 => some (r9.1, r9.2)) else (if v1 = 4 then ((fn_X12_quotedIn x1 x2 s).bind fun r11 => some (r11.1, r11.2)) else (if v1 = 5 then ((fn_X12_countIn x1 x2 s).bind fun r13 => some (r13.1, r13.2)) else (if v1 = 6 then (if x2 = 125 then ((fn_X12_go x1 7 s).bind fun r18 => some (r18.1, r18.2)) else ((fn_X12_pass x1 x2 s).bind fun r16 => some (r16.1, r16.2))) else (if v1 = 7 then (if x2 = 13 then ((fn_X12_go x1 8 s).bind fun r23 => some (r23.1, r23.2)) else ((fn_X12_pass x1 x2 s).bind fun r21 => some (r21.1, r21.2))) else (if v1 = 8 then (if x2 = 10 then ((iget 20 s 1161 x1).bind fun v26 => if v26 ≤ 2000 then ((iget 20 s 1161 x1).bind fun v29 => if v29 = 0 then ((fn_X12_partDone x1 s).bind fun r34 => some (r34.1, r34.2)) else ((fn_X12_go x1 9 s).bind fun r32 => some (r32.1, r32.2))) else ((fn_X12_no x1 kW_201 s).bind fun s37 => (fn_X12_fresh x1 s37).bind fun s39 => some (s39, true))) else ((fn_X12_pass x1 x2 s).bind fun r41 => some (r41.1, r41.2))) else (if v1 = 9 then ((fn_X12_literalIn x1 x2 s).bind fun r43 => some (r43.1, r43.2)) else (if v1 = 10 then ((fn_X12_numberIn x1 x2 s).bind fun r45 => some (r45.1, r45.2)) else (if v1 = 11 then (if x2 = 10 then ((fn_X12_ordered x1 s).bind fun r48 => some (r48.1, r48.2)) else ((fn_X12_pass x1 x2 s).bind fun r50 => some (r50.1, r50.2))) else (if x2 = 10 then ((iget 22 s 1163 x1).bind fun v53 => if v53 = 0 then (fb_X12_manageIn_277 x1 x2 s) else ((fn_X12_no x1 kW_201 s).bind fun s57 => (fn_X12_fresh x1 s57).bind fun s59 => some (s59, true))) else (fb_X12_manageIn_277 x1 x2 s)))))))))))))
set_option maxRecDepth 100000 in
set_option maxHeartbeats 4000000 in
theorem xc_X12_manageIn {l : Launch} {D : va_G} {A : Nat → ClassId} {B : Nat} {Z : State → Heap → Prop} {vF : Value} (uk : uK B Z vF) (un : uX A B Z) {x1 : Int32} {x2 : Int32} {s : uS} {r : (uS × Bool)}  (h : fn_X12_manageIn x1 x2 s = some r) : CU l D A B Z 116 mX12_manageIn s [.ref (B + 1079), .int x1, .int x2] (r.1, some (.int (bI r.2))) := by
  unfold fn_X12_manageIn at h
  refine cu_of rfl uk.1.1 (Nat.le_of_ble_eq_true rfl) ?_
  show GU _ _ _ _ _ _ _ _ _ 0 [(0, .ref (B + 1079)), (1, .int x1), (2, .int x2)] []
  refine uu_aload_n dX12_manageIn_0 rfl (List.mem_of_getElem? (i := 0) rfl) ?_
  refine uu_geta (ci := 12) (N := 153) fX12_1252 (by decide) so_1079.is (by decide) (c := 1156) (by decide) dX12_manageIn_1 ?_
  refine uu_iload_n dX12_manageIn_4 rfl (List.mem_of_getElem? (i := 1) rfl) ?_
  obtain ⟨v1, e2, h⟩ := uu_ob h
  refine uu_iald e2 dX12_manageIn_5 ?_
  by_cases c6_0 : v1 = 0
  · replace h := uu_pos c6_0 h
    refine uu_tabE (tgt := 68) (off := 62) (v := 0) dX12_manageIn_6 c6_0 (by decide) (by decide) rfl (by decide) ?_
    refine uu_aload_n dX12_manageIn_68 rfl (List.mem_of_getElem? (i := 0) rfl) ?_
    refine uu_iload_n dX12_manageIn_69 rfl (List.mem_of_getElem? (i := 1) rfl) ?_
    refine uu_iload_n dX12_manageIn_70 rfl (List.mem_of_getElem? (i := 2) rfl) ?_
    obtain ⟨r3, e4, h⟩ := uu_ob h
    refine uu_cv (d1 := 6) (k := 1079) (ci := 12) (T := TX12) (N := 153) (As := [.int x1, .int x2]) (st := []) (st' := [.int (bI r3.2)]) (xc_X12_wordIn uk  e4) so_1079.is (by decide) rfl kX12_wordIn lX12_1290 sX12_wordIn (by decide) (Nat.le_of_ble_eq_true rfl) dX12_manageIn_71 rfl ?_
    have hr := Option.some.inj h
    subst hr
    exact uu_zret (x := bI r3.2) rfl (bI_z _) dX12_manageIn_74
  replace h := uu_neg c6_0 h
  by_cases c6_1 : v1 = 1
  · replace h := uu_pos c6_1 h
    refine uu_tabE (tgt := 75) (off := 69) (v := 1) dX12_manageIn_6 c6_1 (by decide) (by decide) rfl (by decide) ?_
    refine uu_aload_n dX12_manageIn_75 rfl (List.mem_of_getElem? (i := 0) rfl) ?_
    refine uu_iload_n dX12_manageIn_76 rfl (List.mem_of_getElem? (i := 1) rfl) ?_
    refine uu_iload_n dX12_manageIn_77 rfl (List.mem_of_getElem? (i := 2) rfl) ?_
    obtain ⟨r5, e6, h⟩ := uu_ob h
    refine uu_cv (d1 := 1) (k := 1079) (ci := 12) (T := TX12) (N := 153) (As := [.int x1, .int x2]) (st := []) (st' := [.int (bI r5.2)]) (xc_X12_behindIn uk  e6) so_1079.is (by decide) rfl kX12_behindIn lX12_1264 sX12_behindIn (by decide) (Nat.le_of_ble_eq_true rfl) dX12_manageIn_78 rfl ?_
    have hr := Option.some.inj h
    subst hr
    exact uu_zret (x := bI r5.2) rfl (bI_z _) dX12_manageIn_81
  replace h := uu_neg c6_1 h
  by_cases c6_2 : v1 = 2
  · replace h := uu_pos c6_2 h
    refine uu_tabE (tgt := 82) (off := 76) (v := 2) dX12_manageIn_6 c6_2 (by decide) (by decide) rfl (by decide) ?_
    refine uu_aload_n dX12_manageIn_82 rfl (List.mem_of_getElem? (i := 0) rfl) ?_
    refine uu_iload_n dX12_manageIn_83 rfl (List.mem_of_getElem? (i := 1) rfl) ?_
    refine uu_iload_n dX12_manageIn_84 rfl (List.mem_of_getElem? (i := 2) rfl) ?_
    obtain ⟨r7, e8, h⟩ := uu_ob h
    refine uu_cv (d1 := 2) (k := 1079) (ci := 12) (T := TX12) (N := 153) (As := [.int x1, .int x2]) (st := []) (st' := [.int (bI r7.2)]) (xc_X12_beginIn uk  e8) so_1079.is (by decide) rfl kX12_beginIn lX12_1293 sX12_beginIn (by decide) (Nat.le_of_ble_eq_true rfl) dX12_manageIn_85 rfl ?_
    have hr := Option.some.inj h
    subst hr
    exact uu_zret (x := bI r7.2) rfl (bI_z _) dX12_manageIn_88
  replace h := uu_neg c6_2 h
  by_cases c6_3 : v1 = 3
  · replace h := uu_pos c6_3 h
    refine uu_tabE (tgt := 89) (off := 83) (v := 3) dX12_manageIn_6 c6_3 (by decide) (by decide) rfl (by decide) ?_
    refine uu_aload_n dX12_manageIn_89 rfl (List.mem_of_getElem? (i := 0) rfl) ?_
    refine uu_iload_n dX12_manageIn_90 rfl (List.mem_of_getElem? (i := 1) rfl) ?_
    refine uu_iload_n dX12_manageIn_91 rfl (List.mem_of_getElem? (i := 2) rfl) ?_
    obtain ⟨r9, e10, h⟩ := uu_ob h
    refine uu_cv (d1 := 2) (k := 1079) (ci := 12) (T := TX12) (N := 153) (As := [.int x1, .int x2]) (st := []) (st' := [.int (bI r9.2)]) (xc_X12_quotedIn uk  e10) so_1079.is (by decide) rfl kX12_quotedIn lX12_1296 sX12_quotedIn (by decide) (Nat.le_of_ble_eq_true rfl) dX12_manageIn_92 rfl ?_
    have hr := Option.some.inj h
    subst hr
    exact uu_zret (x := bI r9.2) rfl (bI_z _) dX12_manageIn_95
  replace h := uu_neg c6_3 h
  by_cases c6_4 : v1 = 4
  · replace h := uu_pos c6_4 h
    refine uu_tabE (tgt := 89) (off := 83) (v := 4) dX12_manageIn_6 c6_4 (by decide) (by decide) rfl (by decide) ?_
    refine uu_aload_n dX12_manageIn_89 rfl (List.mem_of_getElem? (i := 0) rfl) ?_
    refine uu_iload_n dX12_manageIn_90 rfl (List.mem_of_getElem? (i := 1) rfl) ?_
    refine uu_iload_n dX12_manageIn_91 rfl (List.mem_of_getElem? (i := 2) rfl) ?_
    obtain ⟨r11, e12, h⟩ := uu_ob h
    refine uu_cv (d1 := 2) (k := 1079) (ci := 12) (T := TX12) (N := 153) (As := [.int x1, .int x2]) (st := []) (st' := [.int (bI r11.2)]) (xc_X12_quotedIn uk  e12) so_1079.is (by decide) rfl kX12_quotedIn lX12_1296 sX12_quotedIn (by decide) (Nat.le_of_ble_eq_true rfl) dX12_manageIn_92 rfl ?_
    have hr := Option.some.inj h
    subst hr
    exact uu_zret (x := bI r11.2) rfl (bI_z _) dX12_manageIn_95
  replace h := uu_neg c6_4 h
  by_cases c6_5 : v1 = 5
  · replace h := uu_pos c6_5 h
    refine uu_tabE (tgt := 96) (off := 90) (v := 5) dX12_manageIn_6 c6_5 (by decide) (by decide) rfl (by decide) ?_
    refine uu_aload_n dX12_manageIn_96 rfl (List.mem_of_getElem? (i := 0) rfl) ?_
    refine uu_iload_n dX12_manageIn_97 rfl (List.mem_of_getElem? (i := 1) rfl) ?_
    refine uu_iload_n dX12_manageIn_98 rfl (List.mem_of_getElem? (i := 2) rfl) ?_
    obtain ⟨r13, e14, h⟩ := uu_ob h
    refine uu_cv (d1 := 2) (k := 1079) (ci := 12) (T := TX12) (N := 153) (As := [.int x1, .int x2]) (st := []) (st' := [.int (bI r13.2)]) (xc_X12_countIn uk  e14) so_1079.is (by decide) rfl kX12_countIn lX12_1299 sX12_countIn (by decide) (Nat.le_of_ble_eq_true rfl) dX12_manageIn_99 rfl ?_
    have hr := Option.some.inj h
    subst hr
    exact uu_zret (x := bI r13.2) rfl (bI_z _) dX12_manageIn_102
  replace h := uu_neg c6_5 h
  by_cases c6_6 : v1 = 6
  · replace h := uu_pos c6_6 h
    refine uu_tabE (tgt := 103) (off := 97) (v := 6) dX12_manageIn_6 c6_6 (by decide) (by decide) rfl (by decide) ?_
    refine uu_iload_n dX12_manageIn_103 rfl (List.mem_of_getElem? (i := 2) rfl) ?_
    refine uu_bipush (v := 125) dX12_manageIn_104 (by decide) ?_
    refine uu_icmp_ne (tgt := 119) dX12_manageIn_106 (by decide) (fun c15 => ?_) (fun c15 => ?_)
    · replace h := uu_neg c15 h
      refine uu_aload_n dX12_manageIn_119 rfl (List.mem_of_getElem? (i := 0) rfl) ?_
      refine uu_iload_n dX12_manageIn_120 rfl (List.mem_of_getElem? (i := 1) rfl) ?_
      refine uu_iload_n dX12_manageIn_121 rfl (List.mem_of_getElem? (i := 2) rfl) ?_
      obtain ⟨r16, e17, h⟩ := uu_ob h
      refine uu_cv (d1 := 0) (k := 1079) (ci := 12) (T := TX12) (N := 153) (As := [.int x1, .int x2]) (st := []) (st' := [.int (bI r16.2)]) (xc_X12_pass uk  e17) so_1079.is (by decide) rfl kX12_pass lX12_1258 sX12_pass (by decide) (Nat.le_of_ble_eq_true rfl) dX12_manageIn_122 rfl ?_
      have hr := Option.some.inj h
      subst hr
      exact uu_zret (x := bI r16.2) rfl (bI_z _) dX12_manageIn_125
    · replace h := uu_pos c15 h
      refine uu_aload_n dX12_manageIn_109 rfl (List.mem_of_getElem? (i := 0) rfl) ?_
      refine uu_iload_n dX12_manageIn_110 rfl (List.mem_of_getElem? (i := 1) rfl) ?_
      refine uu_bipush (v := 7) dX12_manageIn_111 (by decide) ?_
      obtain ⟨r18, e19, h⟩ := uu_ob h
      refine uu_cv (d1 := 0) (k := 1079) (ci := 12) (T := TX12) (N := 153) (As := [.int x1, .int 7]) (st := []) (st' := [.int (bI r18.2)]) (xc_X12_go uk  e19) so_1079.is (by decide) rfl kX12_go lX12_1267 sX12_go (by decide) (Nat.le_of_ble_eq_true rfl) dX12_manageIn_113 rfl ?_
      refine uu_goto (tgt := 125) dX12_manageIn_116 (by decide) ?_
      have hr := Option.some.inj h
      subst hr
      exact uu_zret (x := bI r18.2) rfl (bI_z _) dX12_manageIn_125
  replace h := uu_neg c6_6 h
  by_cases c6_7 : v1 = 7
  · replace h := uu_pos c6_7 h
    refine uu_tabE (tgt := 126) (off := 120) (v := 7) dX12_manageIn_6 c6_7 (by decide) (by decide) rfl (by decide) ?_
    refine uu_iload_n dX12_manageIn_126 rfl (List.mem_of_getElem? (i := 2) rfl) ?_
    refine uu_bipush (v := 13) dX12_manageIn_127 (by decide) ?_
    refine uu_icmp_ne (tgt := 142) dX12_manageIn_129 (by decide) (fun c20 => ?_) (fun c20 => ?_)
    · replace h := uu_neg c20 h
      refine uu_aload_n dX12_manageIn_142 rfl (List.mem_of_getElem? (i := 0) rfl) ?_
      refine uu_iload_n dX12_manageIn_143 rfl (List.mem_of_getElem? (i := 1) rfl) ?_
      refine uu_iload_n dX12_manageIn_144 rfl (List.mem_of_getElem? (i := 2) rfl) ?_
      obtain ⟨r21, e22, h⟩ := uu_ob h
      refine uu_cv (d1 := 0) (k := 1079) (ci := 12) (T := TX12) (N := 153) (As := [.int x1, .int x2]) (st := []) (st' := [.int (bI r21.2)]) (xc_X12_pass uk  e22) so_1079.is (by decide) rfl kX12_pass lX12_1258 sX12_pass (by decide) (Nat.le_of_ble_eq_true rfl) dX12_manageIn_145 rfl ?_
      have hr := Option.some.inj h
      subst hr
      exact uu_zret (x := bI r21.2) rfl (bI_z _) dX12_manageIn_148
    · replace h := uu_pos c20 h
      refine uu_aload_n dX12_manageIn_132 rfl (List.mem_of_getElem? (i := 0) rfl) ?_
      refine uu_iload_n dX12_manageIn_133 rfl (List.mem_of_getElem? (i := 1) rfl) ?_
      refine uu_bipush (v := 8) dX12_manageIn_134 (by decide) ?_
      obtain ⟨r23, e24, h⟩ := uu_ob h
      refine uu_cv (d1 := 0) (k := 1079) (ci := 12) (T := TX12) (N := 153) (As := [.int x1, .int 8]) (st := []) (st' := [.int (bI r23.2)]) (xc_X12_go uk  e24) so_1079.is (by decide) rfl kX12_go lX12_1267 sX12_go (by decide) (Nat.le_of_ble_eq_true rfl) dX12_manageIn_136 rfl ?_
      refine uu_goto (tgt := 148) dX12_manageIn_139 (by decide) ?_
      have hr := Option.some.inj h
      subst hr
      exact uu_zret (x := bI r23.2) rfl (bI_z _) dX12_manageIn_148
  replace h := uu_neg c6_7 h
  by_cases c6_8 : v1 = 8
  · replace h := uu_pos c6_8 h
    refine uu_tabE (tgt := 149) (off := 143) (v := 8) dX12_manageIn_6 c6_8 (by decide) (by decide) rfl (by decide) ?_
    refine uu_iload_n dX12_manageIn_149 rfl (List.mem_of_getElem? (i := 2) rfl) ?_
    refine uu_bipush (v := 10) dX12_manageIn_150 (by decide) ?_
    refine uu_icmp_eq (tgt := 162) dX12_manageIn_152 (by decide) (fun c25 => ?_) (fun c25 => ?_)
    · replace h := uu_pos c25 h
      refine uu_aload_n dX12_manageIn_162 rfl (List.mem_of_getElem? (i := 0) rfl) ?_
      refine uu_geta (ci := 12) (N := 153) fX12_1270 (by decide) so_1079.is (by decide) (c := 1161) (by decide) dX12_manageIn_163 ?_
      refine uu_iload_n dX12_manageIn_166 rfl (List.mem_of_getElem? (i := 1) rfl) ?_
      obtain ⟨v26, e27, h⟩ := uu_ob h
      refine uu_iald e27 dX12_manageIn_167 ?_
      refine uu_sipush (v := 2000) dX12_manageIn_168 (by decide) ?_
      refine uu_icmp_le (tgt := 189) dX12_manageIn_171 (by decide) (fun c28 => ?_) (fun c28 => ?_)
      · replace h := uu_pos c28 h
        refine uu_aload_n dX12_manageIn_189 rfl (List.mem_of_getElem? (i := 0) rfl) ?_
        refine uu_geta (ci := 12) (N := 153) fX12_1270 (by decide) so_1079.is (by decide) (c := 1161) (by decide) dX12_manageIn_190 ?_
        refine uu_iload_n dX12_manageIn_193 rfl (List.mem_of_getElem? (i := 1) rfl) ?_
        obtain ⟨v29, e30, h⟩ := uu_ob h
        refine uu_iald e30 dX12_manageIn_194 ?_
        refine uu_if_ne (tgt := 206) dX12_manageIn_195 (by decide) (fun c31 => ?_) (fun c31 => ?_)
        · replace h := uu_neg c31 h
          refine uu_aload_n dX12_manageIn_206 rfl (List.mem_of_getElem? (i := 0) rfl) ?_
          refine uu_iload_n dX12_manageIn_207 rfl (List.mem_of_getElem? (i := 1) rfl) ?_
          refine uu_bipush (v := 9) dX12_manageIn_208 (by decide) ?_
          obtain ⟨r32, e33, h⟩ := uu_ob h
          refine uu_cv (d1 := 0) (k := 1079) (ci := 12) (T := TX12) (N := 153) (As := [.int x1, .int 9]) (st := []) (st' := [.int (bI r32.2)]) (xc_X12_go uk  e33) so_1079.is (by decide) rfl kX12_go lX12_1267 sX12_go (by decide) (Nat.le_of_ble_eq_true rfl) dX12_manageIn_210 rfl ?_
          have hr := Option.some.inj h
          subst hr
          exact uu_zret (x := bI r32.2) rfl (bI_z _) dX12_manageIn_213
        · replace h := uu_pos c31 h
          refine uu_aload_n dX12_manageIn_198 rfl (List.mem_of_getElem? (i := 0) rfl) ?_
          refine uu_iload_n dX12_manageIn_199 rfl (List.mem_of_getElem? (i := 1) rfl) ?_
          obtain ⟨r34, e35, h⟩ := uu_ob h
          refine uu_cv (d1 := 1) (k := 1079) (ci := 12) (T := TX12) (N := 153) (As := [.int x1]) (st := []) (st' := [.int (bI r34.2)]) (xc_X12_partDone uk  e35) so_1079.is (by decide) rfl kX12_partDone lX12_1281 sX12_partDone (by decide) (Nat.le_of_ble_eq_true rfl) dX12_manageIn_200 rfl ?_
          refine uu_goto (tgt := 213) dX12_manageIn_203 (by decide) ?_
          have hr := Option.some.inj h
          subst hr
          exact uu_zret (x := bI r34.2) rfl (bI_z _) dX12_manageIn_213
      · replace h := uu_neg c28 h
        refine uu_aload_n dX12_manageIn_174 rfl (List.mem_of_getElem? (i := 0) rfl) ?_
        refine uu_iload_n dX12_manageIn_175 rfl (List.mem_of_getElem? (i := 1) rfl) ?_
        obtain ⟨cq36, cp36, cv36, cw36⟩ := uk.2.1 201 _ rfl
        refine uu_ldcwS cv36 dX12_manageIn_176 ?_
        obtain ⟨s37, e38, h⟩ := uu_ob h
        refine uu_cv (d1 := 6) (k := 1079) (ci := 12) (T := TX12) (N := 153) (As := [.int x1, .ref cq36]) (st := []) (st' := []) (xc_X12_no uk cw36 e38) so_1079.is (by decide) rfl kX12_no lX12_1304 sX12_no (by decide) (Nat.le_of_ble_eq_true rfl) dX12_manageIn_179 rfl ?_
        refine uu_aload_n dX12_manageIn_182 rfl (List.mem_of_getElem? (i := 0) rfl) ?_
        refine uu_iload_n dX12_manageIn_183 rfl (List.mem_of_getElem? (i := 1) rfl) ?_
        obtain ⟨s39, e40, h⟩ := uu_ob h
        refine uu_cv (d1 := 0) (k := 1079) (ci := 12) (T := TX12) (N := 153) (As := [.int x1]) (st := []) (st' := []) (xc_X12_fresh uk  e40) so_1079.is (by decide) rfl kX12_fresh lX12_14 sX12_fresh (by decide) (Nat.le_of_ble_eq_true rfl) dX12_manageIn_184 rfl ?_
        refine uu_iconst (v := 1) dX12_manageIn_187 (by decide) ?_
        have hr := Option.some.inj h
        subst hr
        exact uu_zret (x := bI true) rfl (bI_z _) dX12_manageIn_188
    · replace h := uu_neg c25 h
      refine uu_aload_n dX12_manageIn_155 rfl (List.mem_of_getElem? (i := 0) rfl) ?_
      refine uu_iload_n dX12_manageIn_156 rfl (List.mem_of_getElem? (i := 1) rfl) ?_
      refine uu_iload_n dX12_manageIn_157 rfl (List.mem_of_getElem? (i := 2) rfl) ?_
      obtain ⟨r41, e42, h⟩ := uu_ob h
      refine uu_cv (d1 := 0) (k := 1079) (ci := 12) (T := TX12) (N := 153) (As := [.int x1, .int x2]) (st := []) (st' := [.int (bI r41.2)]) (xc_X12_pass uk  e42) so_1079.is (by decide) rfl kX12_pass lX12_1258 sX12_pass (by decide) (Nat.le_of_ble_eq_true rfl) dX12_manageIn_158 rfl ?_
      have hr := Option.some.inj h
      subst hr
      exact uu_zret (x := bI r41.2) rfl (bI_z _) dX12_manageIn_161
  replace h := uu_neg c6_8 h
  by_cases c6_9 : v1 = 9
  · replace h := uu_pos c6_9 h
    refine uu_tabE (tgt := 214) (off := 208) (v := 9) dX12_manageIn_6 c6_9 (by decide) (by decide) rfl (by decide) ?_
    refine uu_aload_n dX12_manageIn_214 rfl (List.mem_of_getElem? (i := 0) rfl) ?_
    refine uu_iload_n dX12_manageIn_215 rfl (List.mem_of_getElem? (i := 1) rfl) ?_
    refine uu_iload_n dX12_manageIn_216 rfl (List.mem_of_getElem? (i := 2) rfl) ?_
    obtain ⟨r43, e44, h⟩ := uu_ob h
    refine uu_cv (d1 := 2) (k := 1079) (ci := 12) (T := TX12) (N := 153) (As := [.int x1, .int x2]) (st := []) (st' := [.int (bI r43.2)]) (xc_X12_literalIn uk  e44) so_1079.is (by decide) rfl kX12_literalIn lX12_1306 sX12_literalIn (by decide) (Nat.le_of_ble_eq_true rfl) dX12_manageIn_217 rfl ?_
    have hr := Option.some.inj h
    subst hr
    exact uu_zret (x := bI r43.2) rfl (bI_z _) dX12_manageIn_220
  replace h := uu_neg c6_9 h
  by_cases c6_10 : v1 = 10
  · replace h := uu_pos c6_10 h
    refine uu_tabE (tgt := 221) (off := 215) (v := 10) dX12_manageIn_6 c6_10 (by decide) (by decide) rfl (by decide) ?_
    refine uu_aload_n dX12_manageIn_221 rfl (List.mem_of_getElem? (i := 0) rfl) ?_
    refine uu_iload_n dX12_manageIn_222 rfl (List.mem_of_getElem? (i := 1) rfl) ?_
    refine uu_iload_n dX12_manageIn_223 rfl (List.mem_of_getElem? (i := 2) rfl) ?_
    obtain ⟨r45, e46, h⟩ := uu_ob h
    refine uu_cv (d1 := 2) (k := 1079) (ci := 12) (T := TX12) (N := 153) (As := [.int x1, .int x2]) (st := []) (st' := [.int (bI r45.2)]) (xc_X12_numberIn uk  e46) so_1079.is (by decide) rfl kX12_numberIn lX12_1309 sX12_numberIn (by decide) (Nat.le_of_ble_eq_true rfl) dX12_manageIn_224 rfl ?_
    have hr := Option.some.inj h
    subst hr
    exact uu_zret (x := bI r45.2) rfl (bI_z _) dX12_manageIn_227
  replace h := uu_neg c6_10 h
  by_cases c6_11 : v1 = 11
  · replace h := uu_pos c6_11 h
    refine uu_tabE (tgt := 228) (off := 222) (v := 11) dX12_manageIn_6 c6_11 (by decide) (by decide) rfl (by decide) ?_
    refine uu_iload_n dX12_manageIn_228 rfl (List.mem_of_getElem? (i := 2) rfl) ?_
    refine uu_bipush (v := 10) dX12_manageIn_229 (by decide) ?_
    refine uu_icmp_eq (tgt := 241) dX12_manageIn_231 (by decide) (fun c47 => ?_) (fun c47 => ?_)
    · replace h := uu_pos c47 h
      refine uu_aload_n dX12_manageIn_241 rfl (List.mem_of_getElem? (i := 0) rfl) ?_
      refine uu_iload_n dX12_manageIn_242 rfl (List.mem_of_getElem? (i := 1) rfl) ?_
      obtain ⟨r48, e49, h⟩ := uu_ob h
      refine uu_cv (d1 := 115) (k := 1079) (ci := 12) (T := TX12) (N := 153) (As := [.int x1]) (st := []) (st' := [.int (bI r48.2)]) (xc_X12_ordered uk un  e49) so_1079.is (by decide) rfl kX12_ordered lX12_1312 sX12_ordered (by decide) (Nat.le_of_ble_eq_true rfl) dX12_manageIn_243 rfl ?_
      have hr := Option.some.inj h
      subst hr
      exact uu_zret (x := bI r48.2) rfl (bI_z _) dX12_manageIn_246
    · replace h := uu_neg c47 h
      refine uu_aload_n dX12_manageIn_234 rfl (List.mem_of_getElem? (i := 0) rfl) ?_
      refine uu_iload_n dX12_manageIn_235 rfl (List.mem_of_getElem? (i := 1) rfl) ?_
      refine uu_iload_n dX12_manageIn_236 rfl (List.mem_of_getElem? (i := 2) rfl) ?_
      obtain ⟨r50, e51, h⟩ := uu_ob h
      refine uu_cv (d1 := 0) (k := 1079) (ci := 12) (T := TX12) (N := 153) (As := [.int x1, .int x2]) (st := []) (st' := [.int (bI r50.2)]) (xc_X12_pass uk  e51) so_1079.is (by decide) rfl kX12_pass lX12_1258 sX12_pass (by decide) (Nat.le_of_ble_eq_true rfl) dX12_manageIn_237 rfl ?_
      have hr := Option.some.inj h
      subst hr
      exact uu_zret (x := bI r50.2) rfl (bI_z _) dX12_manageIn_240
  replace h := uu_neg c6_11 h
  have cx6 : (v1).toInt < 0 ∨ 11 < (v1).toInt := by
    refine Decidable.byContradiction fun q => ?_
    rcases (show (v1).toInt = 0 ∨ (v1).toInt = 1 ∨ (v1).toInt = 2 ∨ (v1).toInt = 3 ∨ (v1).toInt = 4 ∨ (v1).toInt = 5 ∨ (v1).toInt = 6 ∨ (v1).toInt = 7 ∨ (v1).toInt = 8 ∨ (v1).toInt = 9 ∨ (v1).toInt = 10 ∨ (v1).toInt = 11 by omega) with q | q | q | q | q | q | q | q | q | q | q | q
    · exact c6_0 (sw_eq q (by decide))
    · exact c6_1 (sw_eq q (by decide))
    · exact c6_2 (sw_eq q (by decide))
    · exact c6_3 (sw_eq q (by decide))
    · exact c6_4 (sw_eq q (by decide))
    · exact c6_5 (sw_eq q (by decide))
    · exact c6_6 (sw_eq q (by decide))
    · exact c6_7 (sw_eq q (by decide))
    · exact c6_8 (sw_eq q (by decide))
    · exact c6_9 (sw_eq q (by decide))
    · exact c6_10 (sw_eq q (by decide))
    · exact c6_11 (sw_eq q (by decide))
  refine uu_tableOut (tgt := 247) dX12_manageIn_6 cx6 (by decide) ?_
  refine uu_iload_n dX12_manageIn_247 rfl (List.mem_of_getElem? (i := 2) rfl) ?_
  refine uu_bipush (v := 10) dX12_manageIn_248 (by decide) ?_
  refine uu_icmp_ne (tgt := 277) dX12_manageIn_250 (by decide) (fun c52 => ?_) (fun c52 => ?_)
  · replace h := uu_neg c52 h
    exact xb_X12_manageIn_277 uk un  h
  · replace h := uu_pos c52 h
    refine uu_aload_n dX12_manageIn_253 rfl (List.mem_of_getElem? (i := 0) rfl) ?_
    refine uu_geta (ci := 12) (N := 153) fX12_1255 (by decide) so_1079.is (by decide) (c := 1163) (by decide) dX12_manageIn_254 ?_
    refine uu_iload_n dX12_manageIn_257 rfl (List.mem_of_getElem? (i := 1) rfl) ?_
    obtain ⟨v53, e54, h⟩ := uu_ob h
    refine uu_zald e54 dX12_manageIn_258 ?_
    refine uu_if_eq (tgt := 277) dX12_manageIn_259 (by decide) (fun c55 => ?_) (fun c55 => ?_)
    · replace h := uu_pos c55 h
      exact xb_X12_manageIn_277 uk un  h
    · replace h := uu_neg c55 h
      refine uu_aload_n dX12_manageIn_262 rfl (List.mem_of_getElem? (i := 0) rfl) ?_
      refine uu_iload_n dX12_manageIn_263 rfl (List.mem_of_getElem? (i := 1) rfl) ?_
      obtain ⟨cq56, cp56, cv56, cw56⟩ := uk.2.1 201 _ rfl
      refine uu_ldcwS cv56 dX12_manageIn_264 ?_
      obtain ⟨s57, e58, h⟩ := uu_ob h
      refine uu_cv (d1 := 6) (k := 1079) (ci := 12) (T := TX12) (N := 153) (As := [.int x1, .ref cq56]) (st := []) (st' := []) (xc_X12_no uk cw56 e58) so_1079.is (by decide) rfl kX12_no lX12_1304 sX12_no (by decide) (Nat.le_of_ble_eq_true rfl) dX12_manageIn_267 rfl ?_
      refine uu_aload_n dX12_manageIn_270 rfl (List.mem_of_getElem? (i := 0) rfl) ?_
      refine uu_iload_n dX12_manageIn_271 rfl (List.mem_of_getElem? (i := 1) rfl) ?_
      obtain ⟨s59, e60, h⟩ := uu_ob h
      refine uu_cv (d1 := 0) (k := 1079) (ci := 12) (T := TX12) (N := 153) (As := [.int x1]) (st := []) (st' := []) (xc_X12_fresh uk  e60) so_1079.is (by decide) rfl kX12_fresh lX12_14 sX12_fresh (by decide) (Nat.le_of_ble_eq_true rfl) dX12_manageIn_272 rfl ?_
      refine uu_iconst (v := 1) dX12_manageIn_275 (by decide) ?_
      have hr := Option.some.inj h
      subst hr
      exact uu_zret (x := bI true) rfl (bI_z _) dX12_manageIn_276
def fb_X12_manage_37 (K37 : Int32 → Int32 → Int32 → uS → Option (uS × Int32)) (x1 : Int32) (x2 : Int32) (x3 : Int32) (s : uS) : Option (uS × Int32) := if x2 ≤ x3 then (some (s, x2)) else ((iget 20 s 1080 x3).bind fun v2 => (fn_X12_manageIn x1 v2 s).bind fun r4 => if r4.2 = true then (K37 x1 x2 (x3 + 1) r4.1) else (some (r4.1, x3 + 1)))
set_option maxRecDepth 100000 in
set_option maxHeartbeats 4000000 in
theorem xb_X12_manage_37 {l : Launch} {D : va_G} {A : Nat → ClassId} {B : Nat} {Z : State → Heap → Prop} {vF : Value} (uk : uK B Z vF) (un : uX A B Z) {K37 : Int32 → Int32 → Int32 → uS → Option (uS × Int32)} (hK37 : ∀ (x1 : Int32) (x2 : Int32) (x3 : Int32)  (s : uS) (r : (uS × Int32)), K37 x1 x2 x3 s = some r → GU l D A B Z mX12_manage 117 (r.1, some (.int r.2)) s 37 [(0, .ref (B + 1079)), (1, .int x1), (2, .int x2), (3, .int x3)] []) {x1 : Int32} {x2 : Int32} {x3 : Int32} {s : uS} {r : (uS × Int32)}  (h : fb_X12_manage_37 K37 x1 x2 x3 s = some r) : GU l D A B Z mX12_manage 117 (r.1, some (.int r.2)) s 37 [(0, .ref (B + 1079)), (1, .int x1), (2, .int x2), (3, .int x3)] [] := by
  unfold fb_X12_manage_37 at h
  refine uu_iload_n dX12_manage_37 rfl (List.mem_of_getElem? (i := 3) rfl) ?_
  refine uu_iload_n dX12_manage_38 rfl (List.mem_of_getElem? (i := 2) rfl) ?_
  refine uu_icmp_ge (tgt := 66) dX12_manage_39 (by decide) (fun c1 => ?_) (fun c1 => ?_)
  · replace h := uu_pos c1 h
    refine uu_iload_n dX12_manage_66 rfl (List.mem_of_getElem? (i := 2) rfl) ?_
    have hr := Option.some.inj h
    subst hr
    exact uu_iret rfl dX12_manage_67
  · replace h := uu_neg c1 h
    refine uu_aload_n dX12_manage_42 rfl (List.mem_of_getElem? (i := 0) rfl) ?_
    refine uu_iload_n dX12_manage_43 rfl (List.mem_of_getElem? (i := 1) rfl) ?_
    refine uu_aload_n dX12_manage_44 rfl (List.mem_of_getElem? (i := 0) rfl) ?_
    refine uu_geta (ci := 12) (N := 153) fX12_21 (by decide) so_1079.is (by decide) (c := 1080) (by decide) dX12_manage_45 ?_
    refine uu_iload_n dX12_manage_48 rfl (List.mem_of_getElem? (i := 3) rfl) ?_
    obtain ⟨v2, e3, h⟩ := uu_ob h
    refine uu_iald e3 dX12_manage_49 ?_
    obtain ⟨r4, e5, h⟩ := uu_ob h
    refine uu_cv (d1 := 116) (k := 1079) (ci := 12) (T := TX12) (N := 153) (As := [.int x1, .int v2]) (st := []) (st' := [.int (bI r4.2)]) (xc_X12_manageIn uk un  e5) so_1079.is (by decide) rfl kX12_manageIn lX12_1379 sX12_manageIn (by decide) (Nat.le_of_ble_eq_true rfl) dX12_manage_50 rfl ?_
    refine uu_ifb_ne (tgt := 60) dX12_manage_53 (by decide) (fun c6 => ?_) (fun c6 => ?_)
    · replace h := uu_pos c6 h
      refine uu_iinc (v := x3 + 1) dX12_manage_60 (k := 3) rfl rfl (by decide) rfl ?_
      refine uu_goto (tgt := 37) dX12_manage_63 (by decide) ?_
      refine uu_lv [1, 2, 3, 0] (lv' := [(0, .ref (B + 1079)), (1, .int x1), (2, .int x2), (3, .int (x3 + 1))]) rfl ?_
      exact hK37 x1 x2 (x3 + 1) _ _ h
    · replace h := uu_neg c6 h
      refine uu_iload_n dX12_manage_56 rfl (List.mem_of_getElem? (i := 3) rfl) ?_
      refine uu_iconst (v := 1) dX12_manage_57 (by decide) ?_
      refine uu_iadd dX12_manage_58 ?_
      have hr := Option.some.inj h
      subst hr
      exact uu_iret rfl dX12_manage_59
def fn_X12_manage_37  : Nat → Int32 → Int32 → Int32 → uS → Option (uS × Int32)
  | 0 => fun _ _ _ _ => none
  | n + 1 => fb_X12_manage_37 (fn_X12_manage_37  n)
set_option maxRecDepth 100000 in
set_option maxHeartbeats 4000000 in
theorem xn_X12_manage_37 {l : Launch} {D : va_G} {A : Nat → ClassId} {B : Nat} {Z : State → Heap → Prop} {vF : Value} (uk : uK B Z vF) (un : uX A B Z)   : ∀ (n : Nat) (x1 : Int32) (x2 : Int32) (x3 : Int32)  (s : uS) (r : (uS × Int32)), fn_X12_manage_37  n x1 x2 x3 s = some r → GU l D A B Z mX12_manage 117 (r.1, some (.int r.2)) s 37 [(0, .ref (B + 1079)), (1, .int x1), (2, .int x2), (3, .int x3)] [] := by
  intro n
  induction n with
  | zero => intro x1 x2 x3 s r h
            cases h
  | succ n ih => intro x1 x2 x3 s r h
                 exact xb_X12_manage_37 uk un ih  h
def fn_X12_manage (x1 : Int32) (x2 : Int32) (s : uS) : Option (uS × Int32) := if x1 < 0 then (some (s, (-1 : Int32))) else (if (3 : Int32) < x1 then (some (s, (-1 : Int32))) else (if (s.I 1079 0) = 0 then (some (s, (-1 : Int32))) else (if x2 < 0 then (some (s, (-1 : Int32))) else (if x2 ≤ (s.I 1079 5) then (fn_X12_manage_37 uFu x1 x2 0 (wI s 1079 5 0)) else (some (s, (-1 : Int32)))))))
set_option maxRecDepth 100000 in
set_option maxHeartbeats 4000000 in
theorem xc_X12_manage {l : Launch} {D : va_G} {A : Nat → ClassId} {B : Nat} {Z : State → Heap → Prop} {vF : Value} (uk : uK B Z vF) (un : uX A B Z) {x1 : Int32} {x2 : Int32} {s : uS} {r : (uS × Int32)}  (h : fn_X12_manage x1 x2 s = some r) : CU l D A B Z 117 mX12_manage s [.ref (B + 1079), .int x1, .int x2] (r.1, some (.int r.2)) := by
  unfold fn_X12_manage at h
  refine cu_of rfl uk.1.1 (Nat.le_of_ble_eq_true rfl) ?_
  show GU _ _ _ _ _ _ _ _ _ 0 [(0, .ref (B + 1079)), (1, .int x1), (2, .int x2)] []
  refine uu_iload_n dX12_manage_0 rfl (List.mem_of_getElem? (i := 1) rfl) ?_
  refine uu_if_lt (tgt := 28) dX12_manage_1 (by decide) (fun c1 => ?_) (fun c1 => ?_)
  · replace h := uu_pos c1 h
    refine uu_iconst (v := -1) dX12_manage_28 (by decide) ?_
    have hr := Option.some.inj h
    subst hr
    exact uu_iret rfl dX12_manage_29
  · replace h := uu_neg c1 h
    refine uu_iload_n dX12_manage_4 rfl (List.mem_of_getElem? (i := 1) rfl) ?_
    refine uu_iconst (v := 3) dX12_manage_5 (by decide) ?_
    refine uu_icmp_gt (tgt := 28) dX12_manage_6 (by decide) (fun c2 => ?_) (fun c2 => ?_)
    · replace h := uu_pos c2 h
      refine uu_iconst (v := -1) dX12_manage_28 (by decide) ?_
      have hr := Option.some.inj h
      subst hr
      exact uu_iret rfl dX12_manage_29
    · replace h := uu_neg c2 h
      refine uu_aload_n dX12_manage_9 rfl (List.mem_of_getElem? (i := 0) rfl) ?_
      refine uu_geti (ci := 12) (N := 153) fX12_7 (by decide) so_1079.is (by decide) (by decide) dX12_manage_10 ?_
      refine uu_if_eq (tgt := 28) dX12_manage_13 (by decide) (fun c3 => ?_) (fun c3 => ?_)
      · replace h := uu_pos c3 h
        refine uu_iconst (v := -1) dX12_manage_28 (by decide) ?_
        have hr := Option.some.inj h
        subst hr
        exact uu_iret rfl dX12_manage_29
      · replace h := uu_neg c3 h
        refine uu_iload_n dX12_manage_16 rfl (List.mem_of_getElem? (i := 2) rfl) ?_
        refine uu_if_lt (tgt := 28) dX12_manage_17 (by decide) (fun c4 => ?_) (fun c4 => ?_)
        · replace h := uu_pos c4 h
          refine uu_iconst (v := -1) dX12_manage_28 (by decide) ?_
          have hr := Option.some.inj h
          subst hr
          exact uu_iret rfl dX12_manage_29
        · replace h := uu_neg c4 h
          refine uu_iload_n dX12_manage_20 rfl (List.mem_of_getElem? (i := 2) rfl) ?_
          refine uu_aload_n dX12_manage_21 rfl (List.mem_of_getElem? (i := 0) rfl) ?_
          refine uu_geti (ci := 12) (N := 153) fX12_25 (by decide) so_1079.is (by decide) (by decide) dX12_manage_22 ?_
          refine uu_icmp_le (tgt := 30) dX12_manage_25 (by decide) (fun c5 => ?_) (fun c5 => ?_)
          · replace h := uu_pos c5 h
            refine uu_aload_n dX12_manage_30 rfl (List.mem_of_getElem? (i := 0) rfl) ?_
            refine uu_iconst (v := 0) dX12_manage_31 (by decide) ?_
            refine uu_puti (ft := .int) (ci := 12) (N := 153) fX12_25 ptX12 (Or.inl rfl) (by decide) so_1079.is (by decide) (by decide) (by decide +kernel) rfl rfl dX12_manage_32 ?_
            refine uu_iconst (v := 0) dX12_manage_35 (by decide) ?_
            refine uu_istore_n dX12_manage_36 rfl (by decide) rfl ?_
            refine uu_lv [1, 2, 3, 0] (lv' := [(0, .ref (B + 1079)), (1, .int x1), (2, .int x2), (3, .int 0)]) rfl ?_
            exact xn_X12_manage_37 uk un  _ _ _ _ _ _ h
          · replace h := uu_neg c5 h
            refine uu_iconst (v := -1) dX12_manage_28 (by decide) ?_
            have hr := Option.some.inj h
            subst hr
            exact uu_iret rfl dX12_manage_29
