theorem dX11_deliver_181 : decode cX11_deliver 181 = .ok (.aload_n 0, 1) := by decide +kernel
theorem dX11_deliver_182 : decode cX11_deliver 182 = .ok (.getfield 56, 3) := by decide +kernel
theorem lX11_273 : Cond.methodLink RX11 273 mX0_forget.1 ∈ lw_g := h_t6 213 rfl rfl
theorem dX11_deliver_185 : decode cX11_deliver 185 = .ok (.invokevirtual 273, 3) := by decide +kernel
theorem dX11_deliver_188 : decode cX11_deliver 188 = .ok (.return_, 1) := by decide +kernel
theorem dX11_deliver_122 : decode cX11_deliver 122 = .ok (.aload_n 0, 1) := by decide +kernel
theorem dX11_deliver_123 : decode cX11_deliver 123 = .ok (.getfield 84, 3) := by decide +kernel
theorem dX11_deliver_126 : decode cX11_deliver 126 = .ok (.aload_n 0, 1) := by decide +kernel
theorem dX11_deliver_127 : decode cX11_deliver 127 = .ok (.getfield 137, 3) := by decide +kernel
theorem kX7_finish : h_ml mX7_finish 1 := ⟨h_t6 51 rfl rfl, h_t1 15 rfl rfl, ⟨by decide, by decide, by decide +kernel⟩, by decide⟩
theorem lX11_259 : Cond.methodLink RX11 259 mX7_finish.1 ∈ lw_g := h_t6 48 rfl rfl
theorem sX7_finish : Cond.instanceMethod mX7_finish.1 ∈ lw_g ∧ Cond.selects mX7_finish.1.cls mX7_finish.1 mX7_finish.1 ∈ lw_g := ⟨h_t6 49 rfl rfl, h_t6 50 rfl rfl⟩
theorem dX11_deliver_130 : decode cX11_deliver 130 = .ok (.invokevirtual 259, 3) := by decide +kernel
theorem dX11_deliver_133 : decode cX11_deliver 133 = .ok (.aload_n 0, 1) := by decide +kernel
theorem kX11_fits : h_ml mX11_fits 0 := ⟨h_t6 112 rfl rfl, h_t1 1 rfl rfl, ⟨by decide, by decide, by decide +kernel⟩, by decide⟩
theorem lX11_262 : Cond.methodLink RX11 262 mX11_fits.1 ∈ lw_g := h_t6 109 rfl rfl
theorem sX11_fits : Cond.instanceMethod mX11_fits.1 ∈ lw_g ∧ Cond.selects mX11_fits.1.cls mX11_fits.1 mX11_fits.1 ∈ lw_g := ⟨h_t6 111 rfl rfl, h_ins 67 rfl⟩
theorem dX11_deliver_134 : decode cX11_deliver 134 = .ok (.invokevirtual 262, 3) := by decide +kernel
theorem dX11_deliver_137 : decode cX11_deliver 137 = .ok (.ifCond .ne 18, 3) := by decide +kernel
theorem dX11_deliver_155 : decode cX11_deliver 155 = .ok (.aload_n 0, 1) := by decide +kernel
theorem dX11_deliver_156 : decode cX11_deliver 156 = .ok (.invokevirtual 133, 3) := by decide +kernel
theorem dX11_deliver_159 : decode cX11_deliver 159 = .ok (.ifCond .eq 16, 3) := by decide +kernel
theorem dX11_deliver_175 : decode cX11_deliver 175 = .ok (.iinc 2 1, 3) := by decide +kernel
theorem dX11_deliver_178 : decode cX11_deliver 178 = .ok (.goto (-158), 3) := by decide +kernel
theorem dX11_deliver_162 : decode cX11_deliver 162 = .ok (.aload_n 0, 1) := by decide +kernel
theorem dX11_deliver_163 : decode cX11_deliver 163 = .ok (.iload_n 3, 1) := by decide +kernel
theorem kX11_storePlan : h_ml mX11_storePlan 1 := ⟨h_t6 133 rfl rfl, h_t1 1 rfl rfl, ⟨by decide, by decide, by decide +kernel⟩, by decide⟩
theorem lX11_267 : Cond.methodLink RX11 267 mX11_storePlan.1 ∈ lw_g := h_t6 130 rfl rfl
theorem sX11_storePlan : Cond.instanceMethod mX11_storePlan.1 ∈ lw_g ∧ Cond.selects mX11_storePlan.1.cls mX11_storePlan.1 mX11_storePlan.1 ∈ lw_g := ⟨h_t6 132 rfl rfl, h_ins 70 rfl⟩
theorem dX11_deliver_164 : decode cX11_deliver 164 = .ok (.invokevirtual 267, 3) := by decide +kernel
theorem dX11_deliver_167 : decode cX11_deliver 167 = .ok (.aload_n 0, 1) := by decide +kernel
theorem dX11_deliver_168 : decode cX11_deliver 168 = .ok (.getfield 56, 3) := by decide +kernel
theorem dX11_deliver_171 : decode cX11_deliver 171 = .ok (.iload_n 2, 1) := by decide +kernel
theorem kX0_answerDelivered : h_ml mX0_answerDelivered 1 := ⟨h_t6 205 rfl rfl, h_t1 13 rfl rfl, ⟨by decide, by decide, by decide +kernel⟩, by decide⟩
theorem lX11_270 : Cond.methodLink RX11 270 mX0_answerDelivered.1 ∈ lw_g := h_t6 202 rfl rfl
theorem sX0_answerDelivered : Cond.instanceMethod mX0_answerDelivered.1 ∈ lw_g ∧ Cond.selects mX0_answerDelivered.1.cls mX0_answerDelivered.1 mX0_answerDelivered.1 ∈ lw_g := ⟨h_t6 203 rfl rfl, h_t6 204 rfl rfl⟩
theorem dX11_deliver_172 : decode cX11_deliver 172 = .ok (.invokevirtual 270, 3) := by decide +kernel
theorem dX11_deliver_140 : decode cX11_deliver 140 = .ok (.aload_n 0, 1) := by decide +kernel
theorem dX11_deliver_141 : decode cX11_deliver 141 = .ok (.getfield 15, 3) := by decide +kernel
theorem dX11_deliver_144 : decode cX11_deliver 144 = .ok (.iconst 4, 1) := by decide +kernel
theorem dX11_deliver_145 : decode cX11_deliver 145 = .ok (.aaload, 1) := by decide +kernel
theorem dX11_deliver_146 : decode cX11_deliver 146 = .ok (.ldc_w 265, 3) := by decide +kernel
theorem dX11_deliver_149 : decode cX11_deliver 149 = .ok (.invokevirtual 238, 3) := by decide +kernel
theorem dX11_deliver_152 : decode cX11_deliver 152 = .ok (.goto 23, 3) := by decide +kernel
theorem dX11_deliver_20 : decode cX11_deliver 20 = .ok (.iload_n 2, 1) := by decide +kernel
theorem dX11_deliver_21 : decode cX11_deliver 21 = .ok (.iload_n 1, 1) := by decide +kernel
theorem dX11_deliver_22 : decode cX11_deliver 22 = .ok (.if_icmp .ge 159, 3) := by decide +kernel
theorem dX11_deliver_25 : decode cX11_deliver 25 = .ok (.aload_n 0, 1) := by decide +kernel
theorem dX11_deliver_26 : decode cX11_deliver 26 = .ok (.getfield 44, 3) := by decide +kernel
theorem dX11_deliver_29 : decode cX11_deliver 29 = .ok (.ifCond .eq 152, 3) := by decide +kernel
theorem dX11_deliver_32 : decode cX11_deliver 32 = .ok (.aload_n 0, 1) := by decide +kernel
theorem dX11_deliver_33 : decode cX11_deliver 33 = .ok (.getfield 56, 3) := by decide +kernel
theorem lX11_233 : Cond.methodLink RX11 233 mX0_isTooBig.1 ∈ lw_g := h_t4 141 rfl rfl
theorem dX11_deliver_36 : decode cX11_deliver 36 = .ok (.invokevirtual 233, 3) := by decide +kernel
theorem dX11_deliver_39 : decode cX11_deliver 39 = .ok (.ifCond .eq 17, 3) := by decide +kernel
theorem dX11_deliver_56 : decode cX11_deliver 56 = .ok (.aload_n 0, 1) := by decide +kernel
theorem dX11_deliver_57 : decode cX11_deliver 57 = .ok (.getfield 56, 3) := by decide +kernel
theorem dX11_deliver_60 : decode cX11_deliver 60 = .ok (.iload_n 2, 1) := by decide +kernel
theorem kX0_userOf : h_ml mX0_userOf 1 := ⟨h_t4 147 rfl rfl, h_t1 13 rfl rfl, ⟨by decide, by decide, by decide +kernel⟩, by decide⟩
theorem lX11_241 : Cond.methodLink RX11 241 mX0_userOf.1 ∈ lw_g := h_t4 144 rfl rfl
theorem sX0_userOf : Cond.instanceMethod mX0_userOf.1 ∈ lw_g ∧ Cond.selects mX0_userOf.1.cls mX0_userOf.1 mX0_userOf.1 ∈ lw_g := ⟨h_t4 145 rfl rfl, h_t4 146 rfl rfl⟩
theorem dX11_deliver_61 : decode cX11_deliver 61 = .ok (.invokevirtual 241, 3) := by decide +kernel
theorem dX11_deliver_64 : decode cX11_deliver 64 = .ok (.istore_n 3, 1) := by decide +kernel
theorem dX11_deliver_65 : decode cX11_deliver 65 = .ok (.aload_n 0, 1) := by decide +kernel
theorem dX11_deliver_66 : decode cX11_deliver 66 = .ok (.getfield 27, 3) := by decide +kernel
theorem dX11_deliver_69 : decode cX11_deliver 69 = .ok (.iload_n 3, 1) := by decide +kernel
theorem dX11_deliver_70 : decode cX11_deliver 70 = .ok (.aaload, 1) := by decide +kernel
theorem dX11_deliver_71 : decode cX11_deliver 71 = .ok (.getfield 244, 3) := by decide +kernel
theorem dX11_deliver_74 : decode cX11_deliver 74 = .ok (.astore 4, 2) := by decide +kernel
theorem dX11_deliver_76 : decode cX11_deliver 76 = .ok (.aload_n 0, 1) := by decide +kernel
theorem dX11_deliver_77 : decode cX11_deliver 77 = .ok (.getfield 84, 3) := by decide +kernel
theorem dX11_deliver_80 : decode cX11_deliver 80 = .ok (.aload_n 0, 1) := by decide +kernel
theorem dX11_deliver_81 : decode cX11_deliver 81 = .ok (.getfield 27, 3) := by decide +kernel
theorem dX11_deliver_84 : decode cX11_deliver 84 = .ok (.iload_n 3, 1) := by decide +kernel
theorem dX11_deliver_85 : decode cX11_deliver 85 = .ok (.aaload, 1) := by decide +kernel
theorem dX11_deliver_86 : decode cX11_deliver 86 = .ok (.iload_n 2, 1) := by decide +kernel
theorem kX7_begin : h_ml mX7_begin 2 := ⟨h_t4 161 rfl rfl, h_t1 15 rfl rfl, ⟨by decide, by decide, by decide +kernel⟩, by decide⟩
theorem lX11_248 : Cond.methodLink RX11 248 mX7_begin.1 ∈ lw_g := h_t4 158 rfl rfl
theorem sX7_begin : Cond.instanceMethod mX7_begin.1 ∈ lw_g ∧ Cond.selects mX7_begin.1.cls mX7_begin.1 mX7_begin.1 ∈ lw_g := ⟨h_t4 159 rfl rfl, h_t4 160 rfl rfl⟩
theorem dX11_deliver_87 : decode cX11_deliver 87 = .ok (.invokevirtual 248, 3) := by decide +kernel
theorem dX11_deliver_90 : decode cX11_deliver 90 = .ok (.aload 4, 2) := by decide +kernel
theorem dX11_deliver_92 : decode cX11_deliver 92 = .ok (.ifnull 30, 3) := by decide +kernel
theorem dX11_deliver_95 : decode cX11_deliver 95 = .ok (.aload_n 0, 1) := by decide +kernel
theorem dX11_deliver_96 : decode cX11_deliver 96 = .ok (.getfield 40, 3) := by decide +kernel
theorem dX11_deliver_99 : decode cX11_deliver 99 = .ok (.aload 4, 2) := by decide +kernel
theorem dX11_deliver_101 : decode cX11_deliver 101 = .ok (.getfield 161, 3) := by decide +kernel
theorem dX11_deliver_104 : decode cX11_deliver 104 = .ok (.iconst 0, 1) := by decide +kernel
theorem dX11_deliver_105 : decode cX11_deliver 105 = .ok (.aload 4, 2) := by decide +kernel
theorem dX11_deliver_107 : decode cX11_deliver 107 = .ok (.getfield 161, 3) := by decide +kernel
theorem dX11_deliver_110 : decode cX11_deliver 110 = .ok (.arraylength, 1) := by decide +kernel
theorem kX4_parse : h_ml mX4_parse 3 := ⟨h_t4 169 rfl rfl, h_t1 2 rfl rfl, ⟨by decide, by decide, by decide +kernel⟩, by decide⟩
theorem lX11_252 : Cond.methodLink RX11 252 mX4_parse.1 ∈ lw_g := h_t4 166 rfl rfl
theorem sX4_parse : Cond.instanceMethod mX4_parse.1 ∈ lw_g ∧ Cond.selects mX4_parse.1.cls mX4_parse.1 mX4_parse.1 ∈ lw_g := ⟨h_t4 167 rfl rfl, h_t4 168 rfl rfl⟩
theorem dX11_deliver_111 : decode cX11_deliver 111 = .ok (.invokevirtual 252, 3) := by decide +kernel
theorem dX11_deliver_114 : decode cX11_deliver 114 = .ok (.pop, 1) := by decide +kernel
theorem dX11_deliver_115 : decode cX11_deliver 115 = .ok (.aload_n 0, 1) := by decide +kernel
theorem dX11_deliver_116 : decode cX11_deliver 116 = .ok (.getfield 84, 3) := by decide +kernel
theorem kX7_run : h_ml mX7_run 0 := ⟨h_t5 132 rfl rfl, h_t1 15 rfl rfl, ⟨by decide, by decide, by decide +kernel⟩, by decide⟩
theorem lX11_256 : Cond.methodLink RX11 256 mX7_run.1 ∈ lw_g := h_t5 129 rfl rfl
theorem sX7_run : Cond.instanceMethod mX7_run.1 ∈ lw_g ∧ Cond.selects mX7_run.1.cls mX7_run.1 mX7_run.1 ∈ lw_g := ⟨h_t5 130 rfl rfl, h_t5 131 rfl rfl⟩
theorem dX11_deliver_119 : decode cX11_deliver 119 = .ok (.invokevirtual 256, 3) := by decide +kernel
theorem dX11_deliver_42 : decode cX11_deliver 42 = .ok (.aload_n 0, 1) := by decide +kernel
theorem dX11_deliver_43 : decode cX11_deliver 43 = .ok (.getfield 15, 3) := by decide +kernel
theorem dX11_deliver_46 : decode cX11_deliver 46 = .ok (.iconst 4, 1) := by decide +kernel
theorem dX11_deliver_47 : decode cX11_deliver 47 = .ok (.aaload, 1) := by decide +kernel
theorem dX11_deliver_48 : decode cX11_deliver 48 = .ok (.ldc 236, 2) := by decide +kernel
theorem dX11_deliver_50 : decode cX11_deliver 50 = .ok (.invokevirtual 238, 3) := by decide +kernel
theorem dX11_deliver_53 : decode cX11_deliver 53 = .ok (.goto 122, 3) := by decide +kernel
theorem dX11_deliver_0 : decode cX11_deliver 0 = .ok (.aload_n 0, 1) := by decide +kernel
theorem dX11_deliver_1 : decode cX11_deliver 1 = .ok (.getfield 75, 3) := by decide +kernel
theorem kX6_readHeader : h_ml mX6_readHeader 0 := ⟨h_t4 116 rfl rfl, h_t1 14 rfl rfl, ⟨by decide, by decide, by decide +kernel⟩, by decide⟩
theorem lX11_227 : Cond.methodLink RX11 227 mX6_readHeader.1 ∈ lw_g := h_t4 113 rfl rfl
theorem sX6_readHeader : Cond.instanceMethod mX6_readHeader.1 ∈ lw_g ∧ Cond.selects mX6_readHeader.1.cls mX6_readHeader.1 mX6_readHeader.1 ∈ lw_g := ⟨h_t4 114 rfl rfl, h_t4 115 rfl rfl⟩
theorem dX11_deliver_4 : decode cX11_deliver 4 = .ok (.invokevirtual 227, 3) := by decide +kernel
theorem dX11_deliver_7 : decode cX11_deliver 7 = .ok (.aload_n 0, 1) := by decide +kernel
theorem dX11_deliver_8 : decode cX11_deliver 8 = .ok (.getfield 56, 3) := by decide +kernel
theorem fX11_230 : h_fl RX11 230 0 1 RX0 TX0 12 := ⟨rfl, by decide, inX0, h_t2 170 rfl rfl⟩
theorem dX11_deliver_11 : decode cX11_deliver 11 = .ok (.getfield 230, 3) := by decide +kernel
theorem dX11_deliver_14 : decode cX11_deliver 14 = .ok (.getfield 207, 3) := by decide +kernel
theorem dX11_deliver_17 : decode cX11_deliver 17 = .ok (.istore_n 1, 1) := by decide +kernel
theorem dX11_deliver_18 : decode cX11_deliver 18 = .ok (.iconst 0, 1) := by decide +kernel
theorem dX11_deliver_19 : decode cX11_deliver 19 = .ok (.istore_n 2, 1) := by decide +kernel
def fb_X11_deliver_181   (s : uS) : Option uS := (fn_X0_forget s).bind fun s1 => some s1
set_option maxRecDepth 100000 in
set_option maxHeartbeats 4000000 in
theorem xb_X11_deliver_181 {l : Launch} {D : va_G} {A : Nat → ClassId} {B : Nat} {Z : State → Heap → Prop} {vF : Value} (uk : uK B Z vF) (un : uX A B Z)    {s : uS} {r : uS}  (h : fb_X11_deliver_181   s = some r) : GU l D A B Z mX11_deliver 9 (r, none) s 181 [(0, .ref (B + 0))] [] := by
  unfold fb_X11_deliver_181 at h
  refine uu_aload_n dX11_deliver_181 rfl (List.mem_of_getElem? (i := 0) rfl) ?_
  refine uu_geta (ci := 11) (N := 17) fX11_56 (by decide) so_0.is (by decide) (c := 1042) (by decide) dX11_deliver_182 ?_
  obtain ⟨s1, e2, h⟩ := uu_ob h
  refine uu_cv (d1 := 1) (k := 1042) (ci := 0) (T := TX0) (N := 12) (As := []) (st := []) (st' := []) (xc_X0_forget uk  e2) so_1042.is (by decide) rfl kX0_forget lX11_273 sX0_forget (by decide) (Nat.le_of_ble_eq_true rfl) dX11_deliver_185 rfl ?_
  have hr := Option.some.inj h
  subst hr
  exact uu_vret rfl dX11_deliver_188
def fb_X11_deliver_122 (K20 : Int32 → Int32 → uS → Option uS) (x1 : Int32) (x2 : Int32) (x3 : Int32) (s : uS) : Option uS := (fn_X7_finish (s.I 0 13) s).bind fun s1 => (fn_X11_fits s1).bind fun v3 => if v3 = true then ((fn_X11_commit s1).bind fun r6 => if r6.2 = true then ((fn_X11_storePlan x3 r6.1).bind fun s9 => (fn_X0_answerDelivered x2 s9).bind fun s11 => K20 x1 (x2 + 1) s11) else (K20 x1 (x2 + 1) r6.1)) else ((pgt 24 s1 2 4).bind fun j13 => if uSo j13 5 then ((fn_X5_line j13 kW_2 s1).bind fun s17 => K20 x1 (x2 + 1) s17) else none)
set_option maxRecDepth 100000 in
set_option maxHeartbeats 4000000 in
theorem xb_X11_deliver_122 {l : Launch} {D : va_G} {A : Nat → ClassId} {B : Nat} {Z : State → Heap → Prop} {vF : Value} (uk : uK B Z vF) (un : uX A B Z) {K20 : Int32 → Int32 → uS → Option uS} (hK20 : ∀ (x1 : Int32) (x2 : Int32)  (s : uS) (r : uS), K20 x1 x2 s = some r → GU l D A B Z mX11_deliver 9 (r, none) s 20 [(0, .ref (B + 0)), (1, .int x1), (2, .int x2)] []) {x1 : Int32} {x2 : Int32} {x3 : Int32} {s : uS} {r : uS}  (h : fb_X11_deliver_122 K20 x1 x2 x3 s = some r) : GU l D A B Z mX11_deliver 9 (r, none) s 122 [(0, .ref (B + 0)), (1, .int x1), (2, .int x2), (3, .int x3)] [] := by
  unfold fb_X11_deliver_122 at h
  refine uu_aload_n dX11_deliver_122 rfl (List.mem_of_getElem? (i := 0) rfl) ?_
  refine uu_geta (ci := 11) (N := 17) fX11_84 (by decide) so_0.is (by decide) (c := 1070) (by decide) dX11_deliver_123 ?_
  refine uu_aload_n dX11_deliver_126 rfl (List.mem_of_getElem? (i := 0) rfl) ?_
  refine uu_geti (ci := 11) (N := 17) fX11_137 (by decide) so_0.is (by decide) (by decide) dX11_deliver_127 ?_
  obtain ⟨s1, e2, h⟩ := uu_ob h
  refine uu_cv (d1 := 8) (k := 1070) (ci := 7) (T := TX7) (N := 20) (As := [.int (s.I 0 13)]) (st := []) (st' := []) (xc_X7_finish uk un  e2) so_1070.is (by decide) rfl kX7_finish lX11_259 sX7_finish (by decide) (Nat.le_of_ble_eq_true rfl) dX11_deliver_130 rfl ?_
  refine uu_aload_n dX11_deliver_133 rfl (List.mem_of_getElem? (i := 0) rfl) ?_
  obtain ⟨v3, e4, h⟩ := uu_ob h
  refine uu_cv (d1 := 0) (k := 0) (ci := 11) (T := TX11) (N := 17) (As := []) (st := []) (st' := [.int (bI v3)]) (xc_X11_fits uk  e4) so_0.is (by decide) rfl kX11_fits lX11_262 sX11_fits (by decide) (Nat.le_of_ble_eq_true rfl) dX11_deliver_134 rfl ?_
  refine uu_ifb_ne (tgt := 155) dX11_deliver_137 (by decide) (fun c5 => ?_) (fun c5 => ?_)
  · replace h := uu_pos c5 h
    refine uu_aload_n dX11_deliver_155 rfl (List.mem_of_getElem? (i := 0) rfl) ?_
    obtain ⟨r6, e7, h⟩ := uu_ob h
    refine uu_cv (d1 := 3) (k := 0) (ci := 11) (T := TX11) (N := 17) (As := []) (st := []) (st' := [.int (bI r6.2)]) (xc_X11_commit uk  e7) so_0.is (by decide) rfl kX11_commit lX11_133 sX11_commit (by decide) (Nat.le_of_ble_eq_true rfl) dX11_deliver_156 rfl ?_
    refine uu_ifb_eq (tgt := 175) dX11_deliver_159 (by decide) (fun c8 => ?_) (fun c8 => ?_)
    · replace h := uu_neg c8 h
      refine uu_iinc (v := x2 + 1) dX11_deliver_175 (k := 2) rfl rfl (by decide) rfl ?_
      refine uu_goto (tgt := 20) dX11_deliver_178 (by decide) ?_
      refine uu_lv [1, 2, 0] (lv' := [(0, .ref (B + 0)), (1, .int x1), (2, .int (x2 + 1))]) rfl ?_
      exact hK20 x1 (x2 + 1) _ _ h
    · replace h := uu_pos c8 h
      refine uu_aload_n dX11_deliver_162 rfl (List.mem_of_getElem? (i := 0) rfl) ?_
      refine uu_iload_n dX11_deliver_163 rfl (List.mem_of_getElem? (i := 3) rfl) ?_
      obtain ⟨s9, e10, h⟩ := uu_ob h
      refine uu_cv (d1 := 4) (k := 0) (ci := 11) (T := TX11) (N := 17) (As := [.int x3]) (st := []) (st' := []) (xc_X11_storePlan uk un  e10) so_0.is (by decide) rfl kX11_storePlan lX11_267 sX11_storePlan (by decide) (Nat.le_of_ble_eq_true rfl) dX11_deliver_164 rfl ?_
      refine uu_aload_n dX11_deliver_167 rfl (List.mem_of_getElem? (i := 0) rfl) ?_
      refine uu_geta (ci := 11) (N := 17) fX11_56 (by decide) so_0.is (by decide) (c := 1042) (by decide) dX11_deliver_168 ?_
      refine uu_iload_n dX11_deliver_171 rfl (List.mem_of_getElem? (i := 2) rfl) ?_
      obtain ⟨s11, e12, h⟩ := uu_ob h
      refine uu_cv (d1 := 6) (k := 1042) (ci := 0) (T := TX0) (N := 12) (As := [.int x2]) (st := []) (st' := []) (xc_X0_answerDelivered uk  e12) so_1042.is (by decide) rfl kX0_answerDelivered lX11_270 sX0_answerDelivered (by decide) (Nat.le_of_ble_eq_true rfl) dX11_deliver_172 rfl ?_
      refine uu_iinc (v := x2 + 1) dX11_deliver_175 (k := 2) rfl rfl (by decide) rfl ?_
      refine uu_goto (tgt := 20) dX11_deliver_178 (by decide) ?_
      refine uu_lv [1, 2, 0] (lv' := [(0, .ref (B + 0)), (1, .int x1), (2, .int (x2 + 1))]) rfl ?_
      exact hK20 x1 (x2 + 1) _ _ h
  · replace h := uu_neg c5 h
    refine uu_aload_n dX11_deliver_140 rfl (List.mem_of_getElem? (i := 0) rfl) ?_
    refine uu_geta (ci := 11) (N := 17) fX11_15 (by decide) so_0.is (by decide) (c := 2) (by decide) dX11_deliver_141 ?_
    refine uu_iconst (v := 4) dX11_deliver_144 (by decide) ?_
    obtain ⟨j13, e14, h⟩ := uu_ob h
    refine uu_aald (t := 24) rfl (by decide) e14 dX11_deliver_145 ?_
    obtain ⟨g15, h⟩ := uu_grd h
    obtain ⟨cq16, cp16, cv16, cw16⟩ := uk.2.1 2 _ rfl
    refine uu_ldcwS cv16 dX11_deliver_146 ?_
    obtain ⟨s17, e18, h⟩ := uu_ob h
    refine uu_cv (d1 := 5) (k := j13) (ci := 5) (T := TX5) (N := 3) (As := [.ref cq16]) (st := []) (st' := []) (xc_X5_line uk g15 cw16 e18) g15.is (by decide) rfl kX5_line lX11_238 sX5_line (by decide) (Nat.le_of_ble_eq_true rfl) dX11_deliver_149 rfl ?_
    refine uu_goto (tgt := 175) dX11_deliver_152 (by decide) ?_
    refine uu_iinc (v := x2 + 1) dX11_deliver_175 (k := 2) rfl rfl (by decide) rfl ?_
    refine uu_goto (tgt := 20) dX11_deliver_178 (by decide) ?_
    refine uu_lv [1, 2, 0] (lv' := [(0, .ref (B + 0)), (1, .int x1), (2, .int (x2 + 1))]) rfl ?_
    exact hK20 x1 (x2 + 1) _ _ h
def fb_X11_deliver_20 (K20 : Int32 → Int32 → uS → Option uS) (x1 : Int32) (x2 : Int32) (s : uS) : Option uS := if x1 ≤ x2 then (fb_X11_deliver_181 s) else (if (s.I 0 16) = 0 then (fb_X11_deliver_181 s) else ((fn_X0_isTooBig s).bind fun v3 => if v3 = true then ((pgt 24 s 2 4).bind fun j34 => if uSo j34 5 then ((fn_X5_line j34 kW_1 s).bind fun s38 => K20 x1 (x2 + 1) s38) else none) else ((fn_X0_userOf x2 s).bind fun v6 => (pgt 26 s 4 v6).bind fun j8 => if uSo j8 10 then ((s.R j8 5).elim ((pgt 26 s 4 v6).bind fun j12 => if uSo j12 10 then ((fn_X7_begin j12 x2 s).bind fun s15 => fb_X11_deliver_122 K20 x1 x2 v6 s15) else none) (fun j11 => (pgt 26 s 4 v6).bind fun j17 => if uSo j17 10 then ((fn_X7_begin j17 x2 s).bind fun s20 => if uIs s20 j11 1 then ((s20.R j11 1).bind fun j23 => if uIs s20 j11 1 then ((s20.R j11 1).bind fun j26 => (ulen s20 j26).bind fun v28 => (fn_X4_parse j23 0 v28 s20).bind fun r30 => (fn_X7_run r30.1).bind fun s32 => fb_X11_deliver_122 K20 x1 x2 v6 s32) else none) else none) else none)) else none)))
set_option maxRecDepth 100000 in
set_option maxHeartbeats 4000000 in
theorem xb_X11_deliver_20 {l : Launch} {D : va_G} {A : Nat → ClassId} {B : Nat} {Z : State → Heap → Prop} {vF : Value} (uk : uK B Z vF) (un : uX A B Z) {K20 : Int32 → Int32 → uS → Option uS} (hK20 : ∀ (x1 : Int32) (x2 : Int32)  (s : uS) (r : uS), K20 x1 x2 s = some r → GU l D A B Z mX11_deliver 9 (r, none) s 20 [(0, .ref (B + 0)), (1, .int x1), (2, .int x2)] []) {x1 : Int32} {x2 : Int32} {s : uS} {r : uS}  (h : fb_X11_deliver_20 K20 x1 x2 s = some r) : GU l D A B Z mX11_deliver 9 (r, none) s 20 [(0, .ref (B + 0)), (1, .int x1), (2, .int x2)] [] := by
  unfold fb_X11_deliver_20 at h
  refine uu_iload_n dX11_deliver_20 rfl (List.mem_of_getElem? (i := 2) rfl) ?_
  refine uu_iload_n dX11_deliver_21 rfl (List.mem_of_getElem? (i := 1) rfl) ?_
  refine uu_icmp_ge (tgt := 181) dX11_deliver_22 (by decide) (fun c1 => ?_) (fun c1 => ?_)
  · replace h := uu_pos c1 h
    refine uu_lv [0] (lv' := [(0, .ref (B + 0))]) rfl ?_
    exact xb_X11_deliver_181 uk un  h
  · replace h := uu_neg c1 h
    refine uu_aload_n dX11_deliver_25 rfl (List.mem_of_getElem? (i := 0) rfl) ?_
    refine uu_geti (ci := 11) (N := 17) fX11_44 (by decide) so_0.is (by decide) (by decide) dX11_deliver_26 ?_
    refine uu_if_eq (tgt := 181) dX11_deliver_29 (by decide) (fun c2 => ?_) (fun c2 => ?_)
    · replace h := uu_pos c2 h
      refine uu_lv [0] (lv' := [(0, .ref (B + 0))]) rfl ?_
      exact xb_X11_deliver_181 uk un  h
    · replace h := uu_neg c2 h
      refine uu_aload_n dX11_deliver_32 rfl (List.mem_of_getElem? (i := 0) rfl) ?_
      refine uu_geta (ci := 11) (N := 17) fX11_56 (by decide) so_0.is (by decide) (c := 1042) (by decide) dX11_deliver_33 ?_
      obtain ⟨v3, e4, h⟩ := uu_ob h
      refine uu_cv (d1 := 0) (k := 1042) (ci := 0) (T := TX0) (N := 12) (As := []) (st := []) (st' := [.int (bI v3)]) (xc_X0_isTooBig uk  e4) so_1042.is (by decide) rfl kX0_isTooBig lX11_233 sX0_isTooBig (by decide) (Nat.le_of_ble_eq_true rfl) dX11_deliver_36 rfl ?_
      refine uu_ifb_eq (tgt := 56) dX11_deliver_39 (by decide) (fun c5 => ?_) (fun c5 => ?_)
      · replace h := uu_neg c5 h
        refine uu_aload_n dX11_deliver_56 rfl (List.mem_of_getElem? (i := 0) rfl) ?_
        refine uu_geta (ci := 11) (N := 17) fX11_56 (by decide) so_0.is (by decide) (c := 1042) (by decide) dX11_deliver_57 ?_
        refine uu_iload_n dX11_deliver_60 rfl (List.mem_of_getElem? (i := 2) rfl) ?_
        obtain ⟨v6, e7, h⟩ := uu_ob h
        refine uu_cv (d1 := 6) (k := 1042) (ci := 0) (T := TX0) (N := 12) (As := [.int x2]) (st := []) (st' := [.int v6]) (xc_X0_userOf uk  e7) so_1042.is (by decide) rfl kX0_userOf lX11_241 sX0_userOf (by decide) (Nat.le_of_ble_eq_true rfl) dX11_deliver_61 rfl ?_
        refine uu_istore_n dX11_deliver_64 rfl (by decide) rfl ?_
        refine uu_aload_n dX11_deliver_65 rfl (List.mem_of_getElem? (i := 1) rfl) ?_
        refine uu_geta (ci := 11) (N := 17) fX11_27 (by decide) so_0.is (by decide) (c := 4) (by decide) dX11_deliver_66 ?_
        refine uu_iload_n dX11_deliver_69 rfl (List.mem_of_getElem? (i := 0) rfl) ?_
        obtain ⟨j8, e9, h⟩ := uu_ob h
        refine uu_aald (t := 26) rfl (by decide) e9 dX11_deliver_70 ?_
        obtain ⟨g10, h⟩ := uu_grd h
        refine uu_getv (ci := 10) (N := 6) fX11_244 (by decide) g10.is (by decide) (by decide) dX11_deliver_71 ?_
        rcases uu_oe h with ⟨eo11, h⟩ | ⟨j11, eo11, h⟩
        · rw [eo11]
          refine uu_astoreN dX11_deliver_74 (by decide) rfl ?_
          refine uu_aload_n dX11_deliver_76 rfl (List.mem_of_getElem? (i := 2) rfl) ?_
          refine uu_geta (ci := 11) (N := 17) fX11_84 (by decide) so_0.is (by decide) (c := 1070) (by decide) dX11_deliver_77 ?_
          refine uu_aload_n dX11_deliver_80 rfl (List.mem_of_getElem? (i := 2) rfl) ?_
          refine uu_geta (ci := 11) (N := 17) fX11_27 (by decide) so_0.is (by decide) (c := 4) (by decide) dX11_deliver_81 ?_
          refine uu_iload_n dX11_deliver_84 rfl (List.mem_of_getElem? (i := 1) rfl) ?_
          obtain ⟨j12, e13, h⟩ := uu_ob h
          refine uu_aald (t := 26) rfl (by decide) e13 dX11_deliver_85 ?_
          obtain ⟨g14, h⟩ := uu_grd h
          refine uu_iload_n dX11_deliver_86 rfl (List.mem_of_getElem? (i := 4) rfl) ?_
          obtain ⟨s15, e16, h⟩ := uu_ob h
          refine uu_cv (d1 := 1) (k := 1070) (ci := 7) (T := TX7) (N := 20) (As := [.ref (B + j12), .int x2]) (st := []) (st' := []) (xc_X7_begin uk g14 e16) so_1070.is (by decide) rfl kX7_begin lX11_248 sX7_begin (by decide) (Nat.le_of_ble_eq_true rfl) dX11_deliver_87 rfl ?_
          refine uu_aloadN dX11_deliver_90 (List.mem_of_getElem? (i := 0) rfl) ?_
          refine uu_ifnullN (tgt := 122) dX11_deliver_92 (by decide) ?_
          refine uu_lv [2, 3, 4, 1] (lv' := [(0, .ref (B + 0)), (1, .int x1), (2, .int x2), (3, .int v6)]) rfl ?_
          exact xb_X11_deliver_122 uk un hK20 h
        · rw [eo11]
          refine uu_astore dX11_deliver_74 (by decide) rfl ?_
          refine uu_aload_n dX11_deliver_76 rfl (List.mem_of_getElem? (i := 2) rfl) ?_
          refine uu_geta (ci := 11) (N := 17) fX11_84 (by decide) so_0.is (by decide) (c := 1070) (by decide) dX11_deliver_77 ?_
          refine uu_aload_n dX11_deliver_80 rfl (List.mem_of_getElem? (i := 2) rfl) ?_
          refine uu_geta (ci := 11) (N := 17) fX11_27 (by decide) so_0.is (by decide) (c := 4) (by decide) dX11_deliver_81 ?_
          refine uu_iload_n dX11_deliver_84 rfl (List.mem_of_getElem? (i := 1) rfl) ?_
          obtain ⟨j17, e18, h⟩ := uu_ob h
          refine uu_aald (t := 26) rfl (by decide) e18 dX11_deliver_85 ?_
          obtain ⟨g19, h⟩ := uu_grd h
          refine uu_iload_n dX11_deliver_86 rfl (List.mem_of_getElem? (i := 4) rfl) ?_
          obtain ⟨s20, e21, h⟩ := uu_ob h
          refine uu_cv (d1 := 1) (k := 1070) (ci := 7) (T := TX7) (N := 20) (As := [.ref (B + j17), .int x2]) (st := []) (st' := []) (xc_X7_begin uk g19 e21) so_1070.is (by decide) rfl kX7_begin lX11_248 sX7_begin (by decide) (Nat.le_of_ble_eq_true rfl) dX11_deliver_87 rfl ?_
          refine uu_aload dX11_deliver_90 (List.mem_of_getElem? (i := 0) rfl) ?_
          refine uu_ifnull dX11_deliver_92 ?_
          refine uu_aload_n dX11_deliver_95 rfl (List.mem_of_getElem? (i := 2) rfl) ?_
          refine uu_geta (ci := 11) (N := 17) fX11_40 (by decide) so_0.is (by decide) (c := 6) (by decide) dX11_deliver_96 ?_
          refine uu_aload dX11_deliver_99 (List.mem_of_getElem? (i := 0) rfl) ?_
          obtain ⟨g22, h⟩ := uu_grd h
          obtain ⟨j23, e24, h⟩ := uu_ob h
          refine uu_getr (ci := 1) (N := 6) fX11_161 (by decide) g22 (by decide) (by decide) e24 dX11_deliver_101 ?_
          refine uu_iconst (v := 0) dX11_deliver_104 (by decide) ?_
          refine uu_aload dX11_deliver_105 (List.mem_of_getElem? (i := 0) rfl) ?_
          obtain ⟨g25, h⟩ := uu_grd h
          obtain ⟨j26, e27, h⟩ := uu_ob h
          refine uu_getr (ci := 1) (N := 6) fX11_161 (by decide) g25 (by decide) (by decide) e27 dX11_deliver_107 ?_
          obtain ⟨v28, e29, h⟩ := uu_ob h
          refine uu_alen e29 dX11_deliver_110 ?_
          obtain ⟨r30, e31, h⟩ := uu_ob h
          refine uu_cv (d1 := 8) (k := 6) (ci := 4) (T := TX4) (N := 9) (As := [.ref (B + j23), .int 0, .int v28]) (st := []) (st' := [.int r30.2]) (xc_X4_parse uk un  e31) so_6.is (by decide) rfl kX4_parse lX11_252 sX4_parse (by decide) (Nat.le_of_ble_eq_true rfl) dX11_deliver_111 rfl ?_
          refine uu_pop dX11_deliver_114 rfl ?_
          refine uu_aload_n dX11_deliver_115 rfl (List.mem_of_getElem? (i := 2) rfl) ?_
          refine uu_geta (ci := 11) (N := 17) fX11_84 (by decide) so_0.is (by decide) (c := 1070) (by decide) dX11_deliver_116 ?_
          obtain ⟨s32, e33, h⟩ := uu_ob h
          refine uu_cv (d1 := 8) (k := 1070) (ci := 7) (T := TX7) (N := 20) (As := []) (st := []) (st' := []) (xc_X7_run uk un  e33) so_1070.is (by decide) rfl kX7_run lX11_256 sX7_run (by decide) (Nat.le_of_ble_eq_true rfl) dX11_deliver_119 rfl ?_
          refine uu_lv [2, 3, 4, 1] (lv' := [(0, .ref (B + 0)), (1, .int x1), (2, .int x2), (3, .int v6)]) rfl ?_
          exact xb_X11_deliver_122 uk un hK20 h
      · replace h := uu_pos c5 h
        refine uu_aload_n dX11_deliver_42 rfl (List.mem_of_getElem? (i := 0) rfl) ?_
        refine uu_geta (ci := 11) (N := 17) fX11_15 (by decide) so_0.is (by decide) (c := 2) (by decide) dX11_deliver_43 ?_
        refine uu_iconst (v := 4) dX11_deliver_46 (by decide) ?_
        obtain ⟨j34, e35, h⟩ := uu_ob h
        refine uu_aald (t := 24) rfl (by decide) e35 dX11_deliver_47 ?_
        obtain ⟨g36, h⟩ := uu_grd h
        obtain ⟨cq37, cp37, cv37, cw37⟩ := uk.2.1 1 _ rfl
        refine uu_ldcS cv37 dX11_deliver_48 ?_
        obtain ⟨s38, e39, h⟩ := uu_ob h
        refine uu_cv (d1 := 5) (k := j34) (ci := 5) (T := TX5) (N := 3) (As := [.ref cq37]) (st := []) (st' := []) (xc_X5_line uk g36 cw37 e39) g36.is (by decide) rfl kX5_line lX11_238 sX5_line (by decide) (Nat.le_of_ble_eq_true rfl) dX11_deliver_50 rfl ?_
        refine uu_goto (tgt := 175) dX11_deliver_53 (by decide) ?_
        refine uu_iinc (v := x2 + 1) dX11_deliver_175 (k := 2) rfl rfl (by decide) rfl ?_
        refine uu_goto (tgt := 20) dX11_deliver_178 (by decide) ?_
        refine uu_lv [1, 2, 0] (lv' := [(0, .ref (B + 0)), (1, .int x1), (2, .int (x2 + 1))]) rfl ?_
        exact hK20 x1 (x2 + 1) _ _ h
def fn_X11_deliver_20  : Nat → Int32 → Int32 → uS → Option uS
  | 0 => fun _ _ _ => none
  | n + 1 => fb_X11_deliver_20 (fn_X11_deliver_20  n)
set_option maxRecDepth 100000 in
set_option maxHeartbeats 4000000 in
theorem xn_X11_deliver_20 {l : Launch} {D : va_G} {A : Nat → ClassId} {B : Nat} {Z : State → Heap → Prop} {vF : Value} (uk : uK B Z vF) (un : uX A B Z)   : ∀ (n : Nat) (x1 : Int32) (x2 : Int32)  (s : uS) (r : uS), fn_X11_deliver_20  n x1 x2 s = some r → GU l D A B Z mX11_deliver 9 (r, none) s 20 [(0, .ref (B + 0)), (1, .int x1), (2, .int x2)] [] := by
  intro n
  induction n with
  | zero => intro x1 x2 s r h
            cases h
  | succ n ih => intro x1 x2 s r h
                 exact xb_X11_deliver_20 uk un ih  h
def fn_X11_deliver  (s : uS) : Option uS := (fn_X6_readHeader s).bind fun s1 => fn_X11_deliver_20 uFu (s1.I 1047 3) 0 s1
set_option maxRecDepth 100000 in
set_option maxHeartbeats 4000000 in
theorem xc_X11_deliver {l : Launch} {D : va_G} {A : Nat → ClassId} {B : Nat} {Z : State → Heap → Prop} {vF : Value} (uk : uK B Z vF) (un : uX A B Z)  {s : uS} {r : uS}  (h : fn_X11_deliver  s = some r) : CU l D A B Z 9 mX11_deliver s [.ref (B + 0)] (r, none) := by
  unfold fn_X11_deliver at h
  refine cu_of rfl uk.1.1 (Nat.le_of_ble_eq_true rfl) ?_
  show GU _ _ _ _ _ _ _ _ _ 0 [(0, .ref (B + 0))] []
  refine uu_aload_n dX11_deliver_0 rfl (List.mem_of_getElem? (i := 0) rfl) ?_
  refine uu_geta (ci := 11) (N := 17) fX11_75 (by decide) so_0.is (by decide) (c := 1053) (by decide) dX11_deliver_1 ?_
  obtain ⟨s1, e2, h⟩ := uu_ob h
  refine uu_cv (d1 := 3) (k := 1053) (ci := 6) (T := TX6) (N := 6) (As := []) (st := []) (st' := []) (xc_X6_readHeader uk un  e2) so_1053.is (by decide) rfl kX6_readHeader lX11_227 sX6_readHeader (by decide) (Nat.le_of_ble_eq_true rfl) dX11_deliver_4 rfl ?_
  refine uu_aload_n dX11_deliver_7 rfl (List.mem_of_getElem? (i := 0) rfl) ?_
  refine uu_geta (ci := 11) (N := 17) fX11_56 (by decide) so_0.is (by decide) (c := 1042) (by decide) dX11_deliver_8 ?_
  refine uu_geta (ci := 0) (N := 12) fX11_230 (by decide) so_1042.is (by decide) (c := 1047) (by decide) dX11_deliver_11 ?_
  refine uu_geti (ci := 9) (N := 6) fX11_207 (by decide) so_1047.is (by decide) (by decide) dX11_deliver_14 ?_
  refine uu_istore_n dX11_deliver_17 rfl (by decide) rfl ?_
  refine uu_iconst (v := 0) dX11_deliver_18 (by decide) ?_
  refine uu_istore_n dX11_deliver_19 rfl (by decide) rfl ?_
  refine uu_lv [2, 1, 0] (lv' := [(0, .ref (B + 0)), (1, .int (s1.I 1047 3)), (2, .int 0)]) rfl ?_
  exact xn_X11_deliver_20 uk un  _ _ _ _ _ h
def fb_X11_mail_33 (K33 : Int32 → Int32 → uS → Option (uS × Int32)) (x1 : Int32) (x2 : Int32) (s : uS) : Option (uS × Int32) := if x1 ≤ x2 then (some (wI s 0 9 0, x2)) else (if (6000 : Int32) ≤ x2 then (some (wI s 0 9 0, x2)) else (if (s.I 0 16) = 0 then (some (wI s 0 9 0, x2)) else ((iget 21 s 1 x2).bind fun v4 => (fn_X0_take (v4 &&& 255) s).bind fun r6 => if r6.2 = 1 then ((fn_X0_answerLine r6.1).bind fun s12 => K33 x1 (x2 + 1) s12) else (if r6.2 = 2 then ((fn_X11_deliver r6.1).bind fun s10 => K33 x1 (x2 + 1) s10) else (K33 x1 (x2 + 1) r6.1)))))
set_option maxRecDepth 100000 in
set_option maxHeartbeats 4000000 in
theorem xb_X11_mail_33 {l : Launch} {D : va_G} {A : Nat → ClassId} {B : Nat} {Z : State → Heap → Prop} {vF : Value} (uk : uK B Z vF) (un : uX A B Z) {K33 : Int32 → Int32 → uS → Option (uS × Int32)} (hK33 : ∀ (x1 : Int32) (x2 : Int32)  (s : uS) (r : (uS × Int32)), K33 x1 x2 s = some r → GU l D A B Z mX11_mail 10 (r.1, some (.int r.2)) s 33 [(0, .ref (B + 0)), (1, .int x1), (2, .int x2)] []) {x1 : Int32} {x2 : Int32} {s : uS} {r : (uS × Int32)}  (h : fb_X11_mail_33 K33 x1 x2 s = some r) : GU l D A B Z mX11_mail 10 (r.1, some (.int r.2)) s 33 [(0, .ref (B + 0)), (1, .int x1), (2, .int x2)] [] := by
  unfold fb_X11_mail_33 at h
  refine uu_iload_n dX11_mail_33 rfl (List.mem_of_getElem? (i := 2) rfl) ?_
  refine uu_iload_n dX11_mail_34 rfl (List.mem_of_getElem? (i := 1) rfl) ?_
  refine uu_icmp_ge (tgt := 100) dX11_mail_35 (by decide) (fun c1 => ?_) (fun c1 => ?_)
  · replace h := uu_pos c1 h
    refine uu_aload_n dX11_mail_100 rfl (List.mem_of_getElem? (i := 0) rfl) ?_
    refine uu_iconst (v := 0) dX11_mail_101 (by decide) ?_
    refine uu_puti (ft := .int) (ci := 11) (N := 17) fX11_88 ptX11 (Or.inl rfl) (by decide) so_0.is (by decide) (by decide) (by decide +kernel) rfl rfl dX11_mail_102 ?_
    refine uu_iload_n dX11_mail_105 rfl (List.mem_of_getElem? (i := 2) rfl) ?_
    have hr := Option.some.inj h
    subst hr
    exact uu_iret rfl dX11_mail_106
  · replace h := uu_neg c1 h
    refine uu_iload_n dX11_mail_38 rfl (List.mem_of_getElem? (i := 2) rfl) ?_
    refine uu_sipush (v := 6000) dX11_mail_39 (by decide) ?_
    refine uu_icmp_ge (tgt := 100) dX11_mail_42 (by decide) (fun c2 => ?_) (fun c2 => ?_)
    · replace h := uu_pos c2 h
      refine uu_aload_n dX11_mail_100 rfl (List.mem_of_getElem? (i := 0) rfl) ?_
      refine uu_iconst (v := 0) dX11_mail_101 (by decide) ?_
      refine uu_puti (ft := .int) (ci := 11) (N := 17) fX11_88 ptX11 (Or.inl rfl) (by decide) so_0.is (by decide) (by decide) (by decide +kernel) rfl rfl dX11_mail_102 ?_
      refine uu_iload_n dX11_mail_105 rfl (List.mem_of_getElem? (i := 2) rfl) ?_
      have hr := Option.some.inj h
      subst hr
      exact uu_iret rfl dX11_mail_106
    · replace h := uu_neg c2 h
      refine uu_aload_n dX11_mail_45 rfl (List.mem_of_getElem? (i := 0) rfl) ?_
      refine uu_geti (ci := 11) (N := 17) fX11_44 (by decide) so_0.is (by decide) (by decide) dX11_mail_46 ?_
      refine uu_if_eq (tgt := 100) dX11_mail_49 (by decide) (fun c3 => ?_) (fun c3 => ?_)
      · replace h := uu_pos c3 h
        refine uu_aload_n dX11_mail_100 rfl (List.mem_of_getElem? (i := 0) rfl) ?_
        refine uu_iconst (v := 0) dX11_mail_101 (by decide) ?_
        refine uu_puti (ft := .int) (ci := 11) (N := 17) fX11_88 ptX11 (Or.inl rfl) (by decide) so_0.is (by decide) (by decide) (by decide +kernel) rfl rfl dX11_mail_102 ?_
        refine uu_iload_n dX11_mail_105 rfl (List.mem_of_getElem? (i := 2) rfl) ?_
        have hr := Option.some.inj h
        subst hr
        exact uu_iret rfl dX11_mail_106
      · replace h := uu_neg c3 h
        refine uu_aload_n dX11_mail_52 rfl (List.mem_of_getElem? (i := 0) rfl) ?_
        refine uu_geta (ci := 11) (N := 17) fX11_56 (by decide) so_0.is (by decide) (c := 1042) (by decide) dX11_mail_53 ?_
        refine uu_aload_n dX11_mail_56 rfl (List.mem_of_getElem? (i := 0) rfl) ?_
        refine uu_geta (ci := 11) (N := 17) fX11_9 (by decide) so_0.is (by decide) (c := 1) (by decide) dX11_mail_57 ?_
        refine uu_iload_n dX11_mail_60 rfl (List.mem_of_getElem? (i := 2) rfl) ?_
        obtain ⟨v4, e5, h⟩ := uu_ob h
        refine uu_bald e5 dX11_mail_61 ?_
        refine uu_sipush (v := 255) dX11_mail_62 (by decide) ?_
        refine uu_iand dX11_mail_65 ?_
        obtain ⟨r6, e7, h⟩ := uu_ob h
        refine uu_cv (d1 := 3) (k := 1042) (ci := 0) (T := TX0) (N := 12) (As := [.int (v4 &&& 255)]) (st := []) (st' := [.int r6.2]) (xc_X0_take uk  e7) so_1042.is (by decide) rfl kX0_take lX11_102 sX0_take (by decide) (Nat.le_of_ble_eq_true rfl) dX11_mail_66 rfl ?_
        refine uu_istore_n dX11_mail_69 rfl (by decide) rfl ?_
        refine uu_iinc (v := x2 + 1) dX11_mail_70 (k := 3) rfl rfl (by decide) rfl ?_
        refine uu_iload_n dX11_mail_73 rfl (List.mem_of_getElem? (i := 1) rfl) ?_
        refine uu_iconst (v := 1) dX11_mail_74 (by decide) ?_
        refine uu_icmp_ne (tgt := 88) dX11_mail_75 (by decide) (fun c8 => ?_) (fun c8 => ?_)
        · replace h := uu_neg c8 h
          refine uu_iload_n dX11_mail_88 rfl (List.mem_of_getElem? (i := 1) rfl) ?_
          refine uu_iconst (v := 2) dX11_mail_89 (by decide) ?_
          refine uu_icmp_ne (tgt := 97) dX11_mail_90 (by decide) (fun c9 => ?_) (fun c9 => ?_)
          · replace h := uu_neg c9 h
            refine uu_goto (tgt := 33) dX11_mail_97 (by decide) ?_
            refine uu_lv [2, 3, 0] (lv' := [(0, .ref (B + 0)), (1, .int x1), (2, .int (x2 + 1))]) rfl ?_
            exact hK33 x1 (x2 + 1) _ _ h
          · replace h := uu_pos c9 h
            refine uu_aload_n dX11_mail_93 rfl (List.mem_of_getElem? (i := 2) rfl) ?_
            obtain ⟨s10, e11, h⟩ := uu_ob h
            refine uu_cv (d1 := 9) (k := 0) (ci := 11) (T := TX11) (N := 17) (As := []) (st := []) (st' := []) (xc_X11_deliver uk un  e11) so_0.is (by decide) rfl kX11_deliver lX11_109 sX11_deliver (by decide) (Nat.le_of_ble_eq_true rfl) dX11_mail_94 rfl ?_
            refine uu_goto (tgt := 33) dX11_mail_97 (by decide) ?_
            refine uu_lv [2, 3, 0] (lv' := [(0, .ref (B + 0)), (1, .int x1), (2, .int (x2 + 1))]) rfl ?_
            exact hK33 x1 (x2 + 1) _ _ h
        · replace h := uu_pos c8 h
          refine uu_aload_n dX11_mail_78 rfl (List.mem_of_getElem? (i := 2) rfl) ?_
          refine uu_geta (ci := 11) (N := 17) fX11_56 (by decide) so_0.is (by decide) (c := 1042) (by decide) dX11_mail_79 ?_
          obtain ⟨s12, e13, h⟩ := uu_ob h
          refine uu_cv (d1 := 8) (k := 1042) (ci := 0) (T := TX0) (N := 12) (As := []) (st := []) (st' := []) (xc_X0_answerLine uk un  e13) so_1042.is (by decide) rfl kX0_answerLine lX11_106 sX0_answerLine (by decide) (Nat.le_of_ble_eq_true rfl) dX11_mail_82 rfl ?_
          refine uu_goto (tgt := 97) dX11_mail_85 (by decide) ?_
          refine uu_goto (tgt := 33) dX11_mail_97 (by decide) ?_
          refine uu_lv [2, 3, 0] (lv' := [(0, .ref (B + 0)), (1, .int x1), (2, .int (x2 + 1))]) rfl ?_
          exact hK33 x1 (x2 + 1) _ _ h
def fn_X11_mail_33  : Nat → Int32 → Int32 → uS → Option (uS × Int32)
  | 0 => fun _ _ _ => none
  | n + 1 => fb_X11_mail_33 (fn_X11_mail_33  n)
set_option maxRecDepth 100000 in
set_option maxHeartbeats 4000000 in
theorem xn_X11_mail_33 {l : Launch} {D : va_G} {A : Nat → ClassId} {B : Nat} {Z : State → Heap → Prop} {vF : Value} (uk : uK B Z vF) (un : uX A B Z)   : ∀ (n : Nat) (x1 : Int32) (x2 : Int32)  (s : uS) (r : (uS × Int32)), fn_X11_mail_33  n x1 x2 s = some r → GU l D A B Z mX11_mail 10 (r.1, some (.int r.2)) s 33 [(0, .ref (B + 0)), (1, .int x1), (2, .int x2)] [] := by
  intro n
  induction n with
  | zero => intro x1 x2 s r h
            cases h
  | succ n ih => intro x1 x2 s r h
                 exact xb_X11_mail_33 uk un ih  h
def fn_X11_mail (x1 : Int32) (s : uS) : Option (uS × Int32) := if (s.I 0 16) = 0 then (some (s, (-1 : Int32))) else (if (s.I 1042 4) = 0 then (some (s, (-1 : Int32))) else (if x1 < 0 then (some (s, (-1 : Int32))) else (if x1 ≤ (s.I 0 9) then (fn_X11_mail_33 uFu x1 0 s) else (some (s, (-1 : Int32))))))
set_option maxRecDepth 100000 in
set_option maxHeartbeats 4000000 in
theorem xc_X11_mail {l : Launch} {D : va_G} {A : Nat → ClassId} {B : Nat} {Z : State → Heap → Prop} {vF : Value} (uk : uK B Z vF) (un : uX A B Z) {x1 : Int32} {s : uS} {r : (uS × Int32)}  (h : fn_X11_mail x1 s = some r) : CU l D A B Z 10 mX11_mail s [.ref (B + 0), .int x1] (r.1, some (.int r.2)) := by
  unfold fn_X11_mail at h
  refine cu_of rfl uk.1.1 (Nat.le_of_ble_eq_true rfl) ?_
  show GU _ _ _ _ _ _ _ _ _ 0 [(0, .ref (B + 0)), (1, .int x1)] []
  refine uu_aload_n dX11_mail_0 rfl (List.mem_of_getElem? (i := 0) rfl) ?_
  refine uu_geti (ci := 11) (N := 17) fX11_44 (by decide) so_0.is (by decide) (by decide) dX11_mail_1 ?_
  refine uu_if_eq (tgt := 29) dX11_mail_4 (by decide) (fun c1 => ?_) (fun c1 => ?_)
  · replace h := uu_pos c1 h
    refine uu_iconst (v := -1) dX11_mail_29 (by decide) ?_
    have hr := Option.some.inj h
    subst hr
    exact uu_iret rfl dX11_mail_30
  · replace h := uu_neg c1 h
    refine uu_aload_n dX11_mail_7 rfl (List.mem_of_getElem? (i := 0) rfl) ?_
    refine uu_geta (ci := 11) (N := 17) fX11_56 (by decide) so_0.is (by decide) (c := 1042) (by decide) dX11_mail_8 ?_
    refine uu_geti (ci := 0) (N := 12) fX11_99 (by decide) so_1042.is (by decide) (by decide) dX11_mail_11 ?_
    refine uu_if_eq (tgt := 29) dX11_mail_14 (by decide) (fun c2 => ?_) (fun c2 => ?_)
    · replace h := uu_pos c2 h
      refine uu_iconst (v := -1) dX11_mail_29 (by decide) ?_
      have hr := Option.some.inj h
      subst hr
      exact uu_iret rfl dX11_mail_30
    · replace h := uu_neg c2 h
      refine uu_iload_n dX11_mail_17 rfl (List.mem_of_getElem? (i := 1) rfl) ?_
      refine uu_if_lt (tgt := 29) dX11_mail_18 (by decide) (fun c3 => ?_) (fun c3 => ?_)
      · replace h := uu_pos c3 h
        refine uu_iconst (v := -1) dX11_mail_29 (by decide) ?_
        have hr := Option.some.inj h
        subst hr
        exact uu_iret rfl dX11_mail_30
      · replace h := uu_neg c3 h
        refine uu_iload_n dX11_mail_21 rfl (List.mem_of_getElem? (i := 1) rfl) ?_
        refine uu_aload_n dX11_mail_22 rfl (List.mem_of_getElem? (i := 0) rfl) ?_
        refine uu_geti (ci := 11) (N := 17) fX11_88 (by decide) so_0.is (by decide) (by decide) dX11_mail_23 ?_
        refine uu_icmp_le (tgt := 31) dX11_mail_26 (by decide) (fun c4 => ?_) (fun c4 => ?_)
        · replace h := uu_pos c4 h
          refine uu_iconst (v := 0) dX11_mail_31 (by decide) ?_
          refine uu_istore_n dX11_mail_32 rfl (by decide) rfl ?_
          refine uu_lv [1, 2, 0] (lv' := [(0, .ref (B + 0)), (1, .int x1), (2, .int 0)]) rfl ?_
          exact xn_X11_mail_33 uk un  _ _ _ _ _ h
        · replace h := uu_neg c4 h
          refine uu_iconst (v := -1) dX11_mail_29 (by decide) ?_
          have hr := Option.some.inj h
          subst hr
          exact uu_iret rfl dX11_mail_30
abbrev mX11_takeScript : hM := (yX11_takeScript, cX11_takeScript, 6, none)
theorem dX11_takeScript_94 : decode cX11_takeScript 94 = .ok (.aload_n 0, 1) := by decide +kernel
theorem dX11_takeScript_95 : decode cX11_takeScript 95 = .ok (.invokevirtual 133, 3) := by decide +kernel
theorem dX11_takeScript_98 : decode cX11_takeScript 98 = .ok (.ifCond .eq 28, 3) := by decide +kernel
theorem dX11_takeScript_126 : decode cX11_takeScript 126 = .ok (.return_, 1) := by decide +kernel
theorem dX11_takeScript_101 : decode cX11_takeScript 101 = .ok (.aload_n 0, 1) := by decide +kernel
theorem dX11_takeScript_102 : decode cX11_takeScript 102 = .ok (.getfield 27, 3) := by decide +kernel
theorem dX11_takeScript_105 : decode cX11_takeScript 105 = .ok (.iload_n 1, 1) := by decide +kernel
theorem dX11_takeScript_106 : decode cX11_takeScript 106 = .ok (.aaload, 1) := by decide +kernel
theorem dX11_takeScript_107 : decode cX11_takeScript 107 = .ok (.aload 5, 2) := by decide +kernel
theorem dX11_takeScript_109 : decode cX11_takeScript 109 = .ok (.aload 4, 2) := by decide +kernel
theorem kX10_putScript : h_ml mX10_putScript 2 := ⟨h_t7 90 rfl rfl, h_t1 8 rfl rfl, ⟨by decide, by decide, by decide +kernel⟩, by decide⟩
theorem lX11_389 : Cond.methodLink RX11 389 mX10_putScript.1 ∈ lw_g := h_t7 87 rfl rfl
theorem sX10_putScript : Cond.instanceMethod mX10_putScript.1 ∈ lw_g ∧ Cond.selects mX10_putScript.1.cls mX10_putScript.1 mX10_putScript.1 ∈ lw_g := ⟨h_t7 88 rfl rfl, h_t7 89 rfl rfl⟩
theorem dX11_takeScript_111 : decode cX11_takeScript 111 = .ok (.invokevirtual 389, 3) := by decide +kernel
theorem dX11_takeScript_114 : decode cX11_takeScript 114 = .ok (.aload_n 0, 1) := by decide +kernel
theorem dX11_takeScript_115 : decode cX11_takeScript 115 = .ok (.getfield 15, 3) := by decide +kernel
theorem dX11_takeScript_118 : decode cX11_takeScript 118 = .ok (.iload_n 1, 1) := by decide +kernel
theorem dX11_takeScript_119 : decode cX11_takeScript 119 = .ok (.aaload, 1) := by decide +kernel
theorem dX11_takeScript_120 : decode cX11_takeScript 120 = .ok (.ldc_w 375, 3) := by decide +kernel
theorem dX11_takeScript_123 : decode cX11_takeScript 123 = .ok (.invokevirtual 238, 3) := by decide +kernel
theorem dX11_takeScript_0 : decode cX11_takeScript 0 = .ok (.aload_n 0, 1) := by decide +kernel
theorem dX11_takeScript_1 : decode cX11_takeScript 1 = .ok (.getfield 21, 3) := by decide +kernel
theorem dX11_takeScript_4 : decode cX11_takeScript 4 = .ok (.iload_n 1, 1) := by decide +kernel
theorem dX11_takeScript_5 : decode cX11_takeScript 5 = .ok (.aaload, 1) := by decide +kernel
theorem dX11_takeScript_6 : decode cX11_takeScript 6 = .ok (.getfield 350, 3) := by decide +kernel
theorem dX11_takeScript_9 : decode cX11_takeScript 9 = .ok (.astore 4, 2) := by decide +kernel
theorem dX11_takeScript_11 : decode cX11_takeScript 11 = .ok (.aload_n 0, 1) := by decide +kernel
theorem dX11_takeScript_12 : decode cX11_takeScript 12 = .ok (.getfield 27, 3) := by decide +kernel
theorem dX11_takeScript_15 : decode cX11_takeScript 15 = .ok (.iload_n 1, 1) := by decide +kernel
theorem dX11_takeScript_16 : decode cX11_takeScript 16 = .ok (.aaload, 1) := by decide +kernel
theorem dX11_takeScript_17 : decode cX11_takeScript 17 = .ok (.aload 4, 2) := by decide +kernel
theorem dX11_takeScript_19 : decode cX11_takeScript 19 = .ok (.iconst 0, 1) := by decide +kernel
theorem dX11_takeScript_20 : decode cX11_takeScript 20 = .ok (.invokevirtual 377, 3) := by decide +kernel
theorem dX11_takeScript_23 : decode cX11_takeScript 23 = .ok (.astore 5, 2) := by decide +kernel
theorem dX11_takeScript_25 : decode cX11_takeScript 25 = .ok (.iload_n 3, 1) := by decide +kernel
theorem dX11_takeScript_26 : decode cX11_takeScript 26 = .ok (.ifCond .le 16, 3) := by decide +kernel
theorem dX11_takeScript_42 : decode cX11_takeScript 42 = .ok (.iload_n 2, 1) := by decide +kernel
theorem dX11_takeScript_43 : decode cX11_takeScript 43 = .ok (.iconst 1, 1) := by decide +kernel
theorem dX11_takeScript_44 : decode cX11_takeScript 44 = .ok (.if_icmp .ne 18, 3) := by decide +kernel
theorem dX11_takeScript_62 : decode cX11_takeScript 62 = .ok (.aload 5, 2) := by decide +kernel
theorem dX11_takeScript_64 : decode cX11_takeScript 64 = .ok (.ifnonnull 30, 3) := by decide +kernel
theorem dX11_takeScript_67 : decode cX11_takeScript 67 = .ok (.aload_n 0, 1) := by decide +kernel
theorem dX11_takeScript_68 : decode cX11_takeScript 68 = .ok (.getfield 27, 3) := by decide +kernel
theorem dX11_takeScript_71 : decode cX11_takeScript 71 = .ok (.iload_n 1, 1) := by decide +kernel
theorem dX11_takeScript_72 : decode cX11_takeScript 72 = .ok (.aaload, 1) := by decide +kernel
theorem dX11_takeScript_73 : decode cX11_takeScript 73 = .ok (.invokevirtual 384, 3) := by decide +kernel
theorem dX11_takeScript_76 : decode cX11_takeScript 76 = .ok (.ifCond .eq 18, 3) := by decide +kernel
theorem dX11_takeScript_79 : decode cX11_takeScript 79 = .ok (.aload_n 0, 1) := by decide +kernel
theorem dX11_takeScript_80 : decode cX11_takeScript 80 = .ok (.getfield 15, 3) := by decide +kernel
theorem dX11_takeScript_83 : decode cX11_takeScript 83 = .ok (.iload_n 1, 1) := by decide +kernel
theorem dX11_takeScript_84 : decode cX11_takeScript 84 = .ok (.aaload, 1) := by decide +kernel
theorem dX11_takeScript_85 : decode cX11_takeScript 85 = .ok (.ldc_w 387, 3) := by decide +kernel
theorem dX11_takeScript_88 : decode cX11_takeScript 88 = .ok (.invokevirtual 126, 3) := by decide +kernel
theorem dX11_takeScript_91 : decode cX11_takeScript 91 = .ok (.goto 35, 3) := by decide +kernel
theorem dX11_takeScript_47 : decode cX11_takeScript 47 = .ok (.aload_n 0, 1) := by decide +kernel
theorem dX11_takeScript_48 : decode cX11_takeScript 48 = .ok (.getfield 15, 3) := by decide +kernel
theorem dX11_takeScript_51 : decode cX11_takeScript 51 = .ok (.iload_n 1, 1) := by decide +kernel
theorem dX11_takeScript_52 : decode cX11_takeScript 52 = .ok (.aaload, 1) := by decide +kernel
theorem dX11_takeScript_53 : decode cX11_takeScript 53 = .ok (.ldc_w 375, 3) := by decide +kernel
theorem dX11_takeScript_56 : decode cX11_takeScript 56 = .ok (.invokevirtual 238, 3) := by decide +kernel
theorem dX11_takeScript_59 : decode cX11_takeScript 59 = .ok (.goto 67, 3) := by decide +kernel
theorem dX11_takeScript_29 : decode cX11_takeScript 29 = .ok (.aload_n 0, 1) := by decide +kernel
theorem dX11_takeScript_30 : decode cX11_takeScript 30 = .ok (.getfield 15, 3) := by decide +kernel
theorem dX11_takeScript_33 : decode cX11_takeScript 33 = .ok (.iload_n 1, 1) := by decide +kernel
theorem dX11_takeScript_34 : decode cX11_takeScript 34 = .ok (.aaload, 1) := by decide +kernel
theorem dX11_takeScript_35 : decode cX11_takeScript 35 = .ok (.iload_n 3, 1) := by decide +kernel
theorem kX5_faultLine : h_ml mX5_faultLine 1 := ⟨h_t7 68 rfl rfl, h_t1 6 rfl rfl, ⟨by decide, by decide, by decide +kernel⟩, by decide⟩
theorem lX11_381 : Cond.methodLink RX11 381 mX5_faultLine.1 ∈ lw_g := h_t7 65 rfl rfl
theorem sX5_faultLine : Cond.instanceMethod mX5_faultLine.1 ∈ lw_g ∧ Cond.selects mX5_faultLine.1.cls mX5_faultLine.1 mX5_faultLine.1 ∈ lw_g := ⟨h_t7 66 rfl rfl, h_t7 67 rfl rfl⟩
theorem dX11_takeScript_36 : decode cX11_takeScript 36 = .ok (.invokevirtual 381, 3) := by decide +kernel
theorem dX11_takeScript_39 : decode cX11_takeScript 39 = .ok (.goto 87, 3) := by decide +kernel
def fb_X11_takeScript_94  (x1 : Int32) (k4 : Nat) (o5 : Option Nat) (s : uS) : Option uS := (match o5 with | none => (fn_X11_commit s).bind fun r1 => if r1.2 = true then ((pgt 26 r1.1 4 x1).bind fun j4 => if uSo j4 10 then ((fn_X10_putScript j4 none k4 r1.1).bind fun s7 => (pgt 24 s7 2 x1).bind fun j9 => if uSo j9 5 then ((fn_X5_line j9 kW_3 s7).bind fun s13 => some s13) else none) else none) else (some r1.1) | some ko5 => (fn_X11_commit s).bind fun r15 => if r15.2 = true then ((pgt 26 r15.1 4 x1).bind fun j18 => if uSo j18 10 then ((fn_X10_putScript j18 (some ko5) k4 r15.1).bind fun s21 => (pgt 24 s21 2 x1).bind fun j23 => if uSo j23 5 then ((fn_X5_line j23 kW_3 s21).bind fun s27 => some s27) else none) else none) else (some r15.1))
set_option maxRecDepth 100000 in
set_option maxHeartbeats 4000000 in
theorem xb_X11_takeScript_94 {l : Launch} {D : va_G} {A : Nat → ClassId} {B : Nat} {Z : State → Heap → Prop} {vF : Value} (uk : uK B Z vF) (un : uX A B Z)   {x1 : Int32} {k4 : Nat} {o5 : Option Nat} {s : uS} {r : uS} (hk4 : uSo k4 9) (h : fb_X11_takeScript_94  x1 k4 o5 s = some r) : GU l D A B Z mX11_takeScript 7 (r, none) s 94 [(0, .ref (B + 0)), (1, .int x1), (4, .ref (B + k4)), (5, va_rf (o5.map (fun x => B + x)))] [] := by
  unfold fb_X11_takeScript_94 at h
  cases o5 with
  | none =>
    refine uu_aload_n dX11_takeScript_94 rfl (List.mem_of_getElem? (i := 0) rfl) ?_
    obtain ⟨r1, e2, h⟩ := uu_ob h
    refine uu_cv (d1 := 3) (k := 0) (ci := 11) (T := TX11) (N := 17) (As := []) (st := []) (st' := [.int (bI r1.2)]) (xc_X11_commit uk  e2) so_0.is (by decide) rfl kX11_commit lX11_133 sX11_commit (by decide) (Nat.le_of_ble_eq_true rfl) dX11_takeScript_95 rfl ?_
    refine uu_ifb_eq (tgt := 126) dX11_takeScript_98 (by decide) (fun c3 => ?_) (fun c3 => ?_)
    · replace h := uu_neg c3 h
      have hr := Option.some.inj h
      subst hr
      exact uu_vret rfl dX11_takeScript_126
    · replace h := uu_pos c3 h
      refine uu_aload_n dX11_takeScript_101 rfl (List.mem_of_getElem? (i := 0) rfl) ?_
      refine uu_geta (ci := 11) (N := 17) fX11_27 (by decide) so_0.is (by decide) (c := 4) (by decide) dX11_takeScript_102 ?_
      refine uu_iload_n dX11_takeScript_105 rfl (List.mem_of_getElem? (i := 1) rfl) ?_
      obtain ⟨j4, e5, h⟩ := uu_ob h
      refine uu_aald (t := 26) rfl (by decide) e5 dX11_takeScript_106 ?_
      obtain ⟨g6, h⟩ := uu_grd h
      refine uu_aloadN dX11_takeScript_107 (List.mem_of_getElem? (i := 3) rfl) ?_
      refine uu_aload dX11_takeScript_109 (List.mem_of_getElem? (i := 2) rfl) ?_
      obtain ⟨s7, e8, h⟩ := uu_ob h
      refine uu_cv (d1 := 4) (k := j4) (ci := 10) (T := TX10) (N := 6) (As := [.null, .ref (B + k4)]) (st := []) (st' := []) (xc_X10_putScript uk un g6 hk4 e8) g6.is (by decide) rfl kX10_putScript lX11_389 sX10_putScript (by decide) (Nat.le_of_ble_eq_true rfl) dX11_takeScript_111 rfl ?_
      refine uu_aload_n dX11_takeScript_114 rfl (List.mem_of_getElem? (i := 0) rfl) ?_
      refine uu_geta (ci := 11) (N := 17) fX11_15 (by decide) so_0.is (by decide) (c := 2) (by decide) dX11_takeScript_115 ?_
      refine uu_iload_n dX11_takeScript_118 rfl (List.mem_of_getElem? (i := 1) rfl) ?_
      obtain ⟨j9, e10, h⟩ := uu_ob h
      refine uu_aald (t := 24) rfl (by decide) e10 dX11_takeScript_119 ?_
      obtain ⟨g11, h⟩ := uu_grd h
      obtain ⟨cq12, cp12, cv12, cw12⟩ := uk.2.1 3 _ rfl
      refine uu_ldcwS cv12 dX11_takeScript_120 ?_
      obtain ⟨s13, e14, h⟩ := uu_ob h
      refine uu_cv (d1 := 5) (k := j9) (ci := 5) (T := TX5) (N := 3) (As := [.ref cq12]) (st := []) (st' := []) (xc_X5_line uk g11 cw12 e14) g11.is (by decide) rfl kX5_line lX11_238 sX5_line (by decide) (Nat.le_of_ble_eq_true rfl) dX11_takeScript_123 rfl ?_
      have hr := Option.some.inj h
      subst hr
      exact uu_vret rfl dX11_takeScript_126
  | some ko5 =>
    refine uu_aload_n dX11_takeScript_94 rfl (List.mem_of_getElem? (i := 0) rfl) ?_
    obtain ⟨r15, e16, h⟩ := uu_ob h
    refine uu_cv (d1 := 3) (k := 0) (ci := 11) (T := TX11) (N := 17) (As := []) (st := []) (st' := [.int (bI r15.2)]) (xc_X11_commit uk  e16) so_0.is (by decide) rfl kX11_commit lX11_133 sX11_commit (by decide) (Nat.le_of_ble_eq_true rfl) dX11_takeScript_95 rfl ?_
    refine uu_ifb_eq (tgt := 126) dX11_takeScript_98 (by decide) (fun c17 => ?_) (fun c17 => ?_)
    · replace h := uu_neg c17 h
      have hr := Option.some.inj h
      subst hr
      exact uu_vret rfl dX11_takeScript_126
    · replace h := uu_pos c17 h
      refine uu_aload_n dX11_takeScript_101 rfl (List.mem_of_getElem? (i := 0) rfl) ?_
      refine uu_geta (ci := 11) (N := 17) fX11_27 (by decide) so_0.is (by decide) (c := 4) (by decide) dX11_takeScript_102 ?_
      refine uu_iload_n dX11_takeScript_105 rfl (List.mem_of_getElem? (i := 1) rfl) ?_
      obtain ⟨j18, e19, h⟩ := uu_ob h
      refine uu_aald (t := 26) rfl (by decide) e19 dX11_takeScript_106 ?_
      obtain ⟨g20, h⟩ := uu_grd h
      refine uu_aload dX11_takeScript_107 (List.mem_of_getElem? (i := 3) rfl) ?_
      refine uu_aload dX11_takeScript_109 (List.mem_of_getElem? (i := 2) rfl) ?_
      obtain ⟨s21, e22, h⟩ := uu_ob h
      refine uu_cv (d1 := 4) (k := j18) (ci := 10) (T := TX10) (N := 6) (As := [.ref (B + ko5), .ref (B + k4)]) (st := []) (st' := []) (xc_X10_putScript uk un g20 hk4 e22) g20.is (by decide) rfl kX10_putScript lX11_389 sX10_putScript (by decide) (Nat.le_of_ble_eq_true rfl) dX11_takeScript_111 rfl ?_
      refine uu_aload_n dX11_takeScript_114 rfl (List.mem_of_getElem? (i := 0) rfl) ?_
      refine uu_geta (ci := 11) (N := 17) fX11_15 (by decide) so_0.is (by decide) (c := 2) (by decide) dX11_takeScript_115 ?_
      refine uu_iload_n dX11_takeScript_118 rfl (List.mem_of_getElem? (i := 1) rfl) ?_
      obtain ⟨j23, e24, h⟩ := uu_ob h
      refine uu_aald (t := 24) rfl (by decide) e24 dX11_takeScript_119 ?_
      obtain ⟨g25, h⟩ := uu_grd h
      obtain ⟨cq26, cp26, cv26, cw26⟩ := uk.2.1 3 _ rfl
      refine uu_ldcwS cv26 dX11_takeScript_120 ?_
      obtain ⟨s27, e28, h⟩ := uu_ob h
      refine uu_cv (d1 := 5) (k := j23) (ci := 5) (T := TX5) (N := 3) (As := [.ref cq26]) (st := []) (st' := []) (xc_X5_line uk g25 cw26 e28) g25.is (by decide) rfl kX5_line lX11_238 sX5_line (by decide) (Nat.le_of_ble_eq_true rfl) dX11_takeScript_123 rfl ?_
      have hr := Option.some.inj h
      subst hr
      exact uu_vret rfl dX11_takeScript_126
def fn_X11_takeScript (x1 : Int32) (x2 : Int32) (x3 : Int32) (s : uS) : Option uS := (pgt 25 s 3 x1).bind fun j1 => if uSo j1 8 then ((pgt 26 s 4 x1).bind fun j4 => if uSo j4 10 then ((fn_X10_scriptNamed j4 (j1 + 1) 0 s).bind fun v7 => v7.elim (if x3 ≤ 0 then (if x2 = 1 then ((pgt 24 s 2 x1).bind fun j24 => if uSo j24 5 then ((fn_X5_line j24 kW_3 s).bind fun s28 => some s28) else none) else ((pgt 26 s 4 x1).bind fun j12 => if uSo j12 10 then ((fn_X10_isFull j12 s).bind fun v15 => if v15 = true then ((pgt 24 s 2 x1).bind fun j18 => if uSo j18 5 then ((fn_X5_refusal j18 kW_4 s).bind fun s22 => some s22) else none) else (fb_X11_takeScript_94 x1 (j1 + 1) none s)) else none)) else ((pgt 24 s 2 x1).bind fun j30 => if uSo j30 5 then ((fn_X5_faultLine j30 x3 s).bind fun s33 => some s33) else none)) (fun j9 => if x3 ≤ 0 then (if x2 = 1 then ((pgt 24 s 2 x1).bind fun j37 => if uSo j37 5 then ((fn_X5_line j37 kW_3 s).bind fun s41 => some s41) else none) else (fb_X11_takeScript_94 x1 (j1 + 1) (some j9) s)) else ((pgt 24 s 2 x1).bind fun j43 => if uSo j43 5 then ((fn_X5_faultLine j43 x3 s).bind fun s46 => some s46) else none))) else none) else none
set_option maxRecDepth 100000 in
set_option maxHeartbeats 4000000 in
theorem xc_X11_takeScript {l : Launch} {D : va_G} {A : Nat → ClassId} {B : Nat} {Z : State → Heap → Prop} {vF : Value} (uk : uK B Z vF) (un : uX A B Z) {x1 : Int32} {x2 : Int32} {x3 : Int32} {s : uS} {r : uS}  (h : fn_X11_takeScript x1 x2 x3 s = some r) : CU l D A B Z 7 mX11_takeScript s [.ref (B + 0), .int x1, .int x2, .int x3] (r, none) := by
  unfold fn_X11_takeScript at h
  refine cu_of rfl uk.1.1 (Nat.le_of_ble_eq_true rfl) ?_
  show GU _ _ _ _ _ _ _ _ _ 0 [(0, .ref (B + 0)), (1, .int x1), (2, .int x2), (3, .int x3)] []
  refine uu_aload_n dX11_takeScript_0 rfl (List.mem_of_getElem? (i := 0) rfl) ?_
  refine uu_geta (ci := 11) (N := 17) fX11_21 (by decide) so_0.is (by decide) (c := 3) (by decide) dX11_takeScript_1 ?_
  refine uu_iload_n dX11_takeScript_4 rfl (List.mem_of_getElem? (i := 1) rfl) ?_
  obtain ⟨j1, e2, h⟩ := uu_ob h
  refine uu_aald (t := 25) rfl (by decide) e2 dX11_takeScript_5 ?_
  obtain ⟨g3, h⟩ := uu_grd h
  refine uu_getc (ci := 8) (N := 8) fX11_350 (by decide) g3.is (by decide) (c := 1) (by decide) (k2 := j1 + 1) rfl dX11_takeScript_6 ?_
  refine uu_astore dX11_takeScript_9 (by decide) rfl ?_
  refine uu_aload_n dX11_takeScript_11 rfl (List.mem_of_getElem? (i := 1) rfl) ?_
  refine uu_geta (ci := 11) (N := 17) fX11_27 (by decide) so_0.is (by decide) (c := 4) (by decide) dX11_takeScript_12 ?_
  refine uu_iload_n dX11_takeScript_15 rfl (List.mem_of_getElem? (i := 2) rfl) ?_
  obtain ⟨j4, e5, h⟩ := uu_ob h
  refine uu_aald (t := 26) rfl (by decide) e5 dX11_takeScript_16 ?_
  obtain ⟨g6, h⟩ := uu_grd h
  refine uu_aload dX11_takeScript_17 (List.mem_of_getElem? (i := 0) rfl) ?_
  refine uu_iconst (v := 0) dX11_takeScript_19 (by decide) ?_
  obtain ⟨v7, e8, h⟩ := uu_ob h
  refine uu_cv (d1 := 2) (k := j4) (ci := 10) (T := TX10) (N := 6) (As := [.ref (B + (j1 + 1)), .int 0]) (st := []) (st' := [va_rf (v7.map (fun x => B + x))]) (xc_X10_scriptNamed uk g6 (so_parts g3) e8) g6.is (by decide) rfl kX10_scriptNamed lX11_377 sX10_scriptNamed (by decide) (Nat.le_of_ble_eq_true rfl) dX11_takeScript_20 rfl ?_
  rcases uu_oe h with ⟨eo9, h⟩ | ⟨j9, eo9, h⟩
  · rw [eo9]
    refine uu_astoreN dX11_takeScript_23 (by decide) rfl ?_
    refine uu_iload_n dX11_takeScript_25 rfl (List.mem_of_getElem? (i := 5) rfl) ?_
    refine uu_if_le (tgt := 42) dX11_takeScript_26 (by decide) (fun c10 => ?_) (fun c10 => ?_)
    · replace h := uu_pos c10 h
      refine uu_iload_n dX11_takeScript_42 rfl (List.mem_of_getElem? (i := 4) rfl) ?_
      refine uu_iconst (v := 1) dX11_takeScript_43 (by decide) ?_
      refine uu_icmp_ne (tgt := 62) dX11_takeScript_44 (by decide) (fun c11 => ?_) (fun c11 => ?_)
      · replace h := uu_neg c11 h
        refine uu_aloadN dX11_takeScript_62 (List.mem_of_getElem? (i := 0) rfl) ?_
        refine uu_ifnonnullN dX11_takeScript_64 ?_
        refine uu_aload_n dX11_takeScript_67 rfl (List.mem_of_getElem? (i := 2) rfl) ?_
        refine uu_geta (ci := 11) (N := 17) fX11_27 (by decide) so_0.is (by decide) (c := 4) (by decide) dX11_takeScript_68 ?_
        refine uu_iload_n dX11_takeScript_71 rfl (List.mem_of_getElem? (i := 3) rfl) ?_
        obtain ⟨j12, e13, h⟩ := uu_ob h
        refine uu_aald (t := 26) rfl (by decide) e13 dX11_takeScript_72 ?_
        obtain ⟨g14, h⟩ := uu_grd h
        obtain ⟨v15, e16, h⟩ := uu_ob h
        refine uu_cv (d1 := 0) (k := j12) (ci := 10) (T := TX10) (N := 6) (As := []) (st := []) (st' := [.int (bI v15)]) (xc_X10_isFull uk g14 e16) g14.is (by decide) rfl kX10_isFull lX11_384 sX10_isFull (by decide) (Nat.le_of_ble_eq_true rfl) dX11_takeScript_73 rfl ?_
        refine uu_ifb_eq (tgt := 94) dX11_takeScript_76 (by decide) (fun c17 => ?_) (fun c17 => ?_)
        · replace h := uu_neg c17 h
          refine uu_lv [2, 3, 1, 0] (lv' := [(0, .ref (B + 0)), (1, .int x1), (4, .ref (B + (j1 + 1))), (5, .null)]) rfl ?_
          exact xb_X11_takeScript_94 uk un (so_parts g3) h
        · replace h := uu_pos c17 h
          refine uu_aload_n dX11_takeScript_79 rfl (List.mem_of_getElem? (i := 2) rfl) ?_
          refine uu_geta (ci := 11) (N := 17) fX11_15 (by decide) so_0.is (by decide) (c := 2) (by decide) dX11_takeScript_80 ?_
          refine uu_iload_n dX11_takeScript_83 rfl (List.mem_of_getElem? (i := 3) rfl) ?_
          obtain ⟨j18, e19, h⟩ := uu_ob h
          refine uu_aald (t := 24) rfl (by decide) e19 dX11_takeScript_84 ?_
          obtain ⟨g20, h⟩ := uu_grd h
          obtain ⟨cq21, cp21, cv21, cw21⟩ := uk.2.1 4 _ rfl
          refine uu_ldcwS cv21 dX11_takeScript_85 ?_
          obtain ⟨s22, e23, h⟩ := uu_ob h
          refine uu_cv (d1 := 6) (k := j18) (ci := 5) (T := TX5) (N := 3) (As := [.ref cq21]) (st := []) (st' := []) (xc_X5_refusal uk g20 cw21 e23) g20.is (by decide) rfl kX5_refusal lX11_126 sX5_refusal (by decide) (Nat.le_of_ble_eq_true rfl) dX11_takeScript_88 rfl ?_
          refine uu_goto (tgt := 126) dX11_takeScript_91 (by decide) ?_
          have hr := Option.some.inj h
          subst hr
          exact uu_vret rfl dX11_takeScript_126
      · replace h := uu_pos c11 h
        refine uu_aload_n dX11_takeScript_47 rfl (List.mem_of_getElem? (i := 2) rfl) ?_
        refine uu_geta (ci := 11) (N := 17) fX11_15 (by decide) so_0.is (by decide) (c := 2) (by decide) dX11_takeScript_48 ?_
        refine uu_iload_n dX11_takeScript_51 rfl (List.mem_of_getElem? (i := 3) rfl) ?_
        obtain ⟨j24, e25, h⟩ := uu_ob h
        refine uu_aald (t := 24) rfl (by decide) e25 dX11_takeScript_52 ?_
        obtain ⟨g26, h⟩ := uu_grd h
        obtain ⟨cq27, cp27, cv27, cw27⟩ := uk.2.1 3 _ rfl
        refine uu_ldcwS cv27 dX11_takeScript_53 ?_
        obtain ⟨s28, e29, h⟩ := uu_ob h
        refine uu_cv (d1 := 5) (k := j24) (ci := 5) (T := TX5) (N := 3) (As := [.ref cq27]) (st := []) (st' := []) (xc_X5_line uk g26 cw27 e29) g26.is (by decide) rfl kX5_line lX11_238 sX5_line (by decide) (Nat.le_of_ble_eq_true rfl) dX11_takeScript_56 rfl ?_
        refine uu_goto (tgt := 126) dX11_takeScript_59 (by decide) ?_
        have hr := Option.some.inj h
        subst hr
        exact uu_vret rfl dX11_takeScript_126
    · replace h := uu_neg c10 h
      refine uu_aload_n dX11_takeScript_29 rfl (List.mem_of_getElem? (i := 2) rfl) ?_
      refine uu_geta (ci := 11) (N := 17) fX11_15 (by decide) so_0.is (by decide) (c := 2) (by decide) dX11_takeScript_30 ?_
      refine uu_iload_n dX11_takeScript_33 rfl (List.mem_of_getElem? (i := 3) rfl) ?_
      obtain ⟨j30, e31, h⟩ := uu_ob h
      refine uu_aald (t := 24) rfl (by decide) e31 dX11_takeScript_34 ?_
      obtain ⟨g32, h⟩ := uu_grd h
      refine uu_iload_n dX11_takeScript_35 rfl (List.mem_of_getElem? (i := 5) rfl) ?_
      obtain ⟨s33, e34, h⟩ := uu_ob h
      refine uu_cv (d1 := 6) (k := j30) (ci := 5) (T := TX5) (N := 3) (As := [.int x3]) (st := []) (st' := []) (xc_X5_faultLine uk g32 e34) g32.is (by decide) rfl kX5_faultLine lX11_381 sX5_faultLine (by decide) (Nat.le_of_ble_eq_true rfl) dX11_takeScript_36 rfl ?_
      refine uu_goto (tgt := 126) dX11_takeScript_39 (by decide) ?_
      have hr := Option.some.inj h
      subst hr
      exact uu_vret rfl dX11_takeScript_126
  · rw [eo9]
    refine uu_astore dX11_takeScript_23 (by decide) rfl ?_
    refine uu_iload_n dX11_takeScript_25 rfl (List.mem_of_getElem? (i := 5) rfl) ?_
    refine uu_if_le (tgt := 42) dX11_takeScript_26 (by decide) (fun c35 => ?_) (fun c35 => ?_)
    · replace h := uu_pos c35 h
      refine uu_iload_n dX11_takeScript_42 rfl (List.mem_of_getElem? (i := 4) rfl) ?_
      refine uu_iconst (v := 1) dX11_takeScript_43 (by decide) ?_
      refine uu_icmp_ne (tgt := 62) dX11_takeScript_44 (by decide) (fun c36 => ?_) (fun c36 => ?_)
      · replace h := uu_neg c36 h
        refine uu_aload dX11_takeScript_62 (List.mem_of_getElem? (i := 0) rfl) ?_
        refine uu_ifnonnull (tgt := 94) dX11_takeScript_64 (by decide) ?_
        refine uu_lv [2, 3, 1, 0] (lv' := [(0, .ref (B + 0)), (1, .int x1), (4, .ref (B + (j1 + 1))), (5, .ref (B + j9))]) rfl ?_
        exact xb_X11_takeScript_94 uk un (so_parts g3) h
      · replace h := uu_pos c36 h
        refine uu_aload_n dX11_takeScript_47 rfl (List.mem_of_getElem? (i := 2) rfl) ?_
        refine uu_geta (ci := 11) (N := 17) fX11_15 (by decide) so_0.is (by decide) (c := 2) (by decide) dX11_takeScript_48 ?_
        refine uu_iload_n dX11_takeScript_51 rfl (List.mem_of_getElem? (i := 3) rfl) ?_
        obtain ⟨j37, e38, h⟩ := uu_ob h
        refine uu_aald (t := 24) rfl (by decide) e38 dX11_takeScript_52 ?_
        obtain ⟨g39, h⟩ := uu_grd h
        obtain ⟨cq40, cp40, cv40, cw40⟩ := uk.2.1 3 _ rfl
        refine uu_ldcwS cv40 dX11_takeScript_53 ?_
        obtain ⟨s41, e42, h⟩ := uu_ob h
        refine uu_cv (d1 := 5) (k := j37) (ci := 5) (T := TX5) (N := 3) (As := [.ref cq40]) (st := []) (st' := []) (xc_X5_line uk g39 cw40 e42) g39.is (by decide) rfl kX5_line lX11_238 sX5_line (by decide) (Nat.le_of_ble_eq_true rfl) dX11_takeScript_56 rfl ?_
        refine uu_goto (tgt := 126) dX11_takeScript_59 (by decide) ?_
        have hr := Option.some.inj h
        subst hr
        exact uu_vret rfl dX11_takeScript_126
    · replace h := uu_neg c35 h
      refine uu_aload_n dX11_takeScript_29 rfl (List.mem_of_getElem? (i := 2) rfl) ?_
      refine uu_geta (ci := 11) (N := 17) fX11_15 (by decide) so_0.is (by decide) (c := 2) (by decide) dX11_takeScript_30 ?_
      refine uu_iload_n dX11_takeScript_33 rfl (List.mem_of_getElem? (i := 3) rfl) ?_
      obtain ⟨j43, e44, h⟩ := uu_ob h
      refine uu_aald (t := 24) rfl (by decide) e44 dX11_takeScript_34 ?_
      obtain ⟨g45, h⟩ := uu_grd h
      refine uu_iload_n dX11_takeScript_35 rfl (List.mem_of_getElem? (i := 5) rfl) ?_
      obtain ⟨s46, e47, h⟩ := uu_ob h
      refine uu_cv (d1 := 6) (k := j43) (ci := 5) (T := TX5) (N := 3) (As := [.int x3]) (st := []) (st' := []) (xc_X5_faultLine uk g45 e47) g45.is (by decide) rfl kX5_faultLine lX11_381 sX5_faultLine (by decide) (Nat.le_of_ble_eq_true rfl) dX11_takeScript_36 rfl ?_
      refine uu_goto (tgt := 126) dX11_takeScript_39 (by decide) ?_
      have hr := Option.some.inj h
      subst hr
      exact uu_vret rfl dX11_takeScript_126
abbrev mX11_renameScript : hM := (yX11_renameScript, cX11_renameScript, 4, none)
theorem dX11_renameScript_0 : decode cX11_renameScript 0 = .ok (.aload_n 0, 1) := by decide +kernel
theorem dX11_renameScript_1 : decode cX11_renameScript 1 = .ok (.getfield 21, 3) := by decide +kernel
theorem dX11_renameScript_4 : decode cX11_renameScript 4 = .ok (.iload_n 1, 1) := by decide +kernel
theorem dX11_renameScript_5 : decode cX11_renameScript 5 = .ok (.aaload, 1) := by decide +kernel
theorem dX11_renameScript_6 : decode cX11_renameScript 6 = .ok (.getfield 350, 3) := by decide +kernel
theorem dX11_renameScript_9 : decode cX11_renameScript 9 = .ok (.astore_n 2, 1) := by decide +kernel
theorem dX11_renameScript_10 : decode cX11_renameScript 10 = .ok (.aload_n 0, 1) := by decide +kernel
theorem dX11_renameScript_11 : decode cX11_renameScript 11 = .ok (.getfield 27, 3) := by decide +kernel
theorem dX11_renameScript_14 : decode cX11_renameScript 14 = .ok (.iload_n 1, 1) := by decide +kernel
theorem dX11_renameScript_15 : decode cX11_renameScript 15 = .ok (.aaload, 1) := by decide +kernel
theorem dX11_renameScript_16 : decode cX11_renameScript 16 = .ok (.aload_n 2, 1) := by decide +kernel
theorem dX11_renameScript_17 : decode cX11_renameScript 17 = .ok (.iconst 0, 1) := by decide +kernel
theorem dX11_renameScript_18 : decode cX11_renameScript 18 = .ok (.invokevirtual 377, 3) := by decide +kernel
theorem dX11_renameScript_21 : decode cX11_renameScript 21 = .ok (.astore_n 3, 1) := by decide +kernel
theorem dX11_renameScript_22 : decode cX11_renameScript 22 = .ok (.aload_n 3, 1) := by decide +kernel
theorem dX11_renameScript_23 : decode cX11_renameScript 23 = .ok (.ifnonnull 18, 3) := by decide +kernel
theorem dX11_renameScript_26 : decode cX11_renameScript 26 = .ok (.aload_n 0, 1) := by decide +kernel
theorem dX11_renameScript_27 : decode cX11_renameScript 27 = .ok (.getfield 15, 3) := by decide +kernel
theorem dX11_renameScript_30 : decode cX11_renameScript 30 = .ok (.iload_n 1, 1) := by decide +kernel
theorem dX11_renameScript_31 : decode cX11_renameScript 31 = .ok (.aaload, 1) := by decide +kernel
theorem dX11_renameScript_32 : decode cX11_renameScript 32 = .ok (.ldc_w 399, 3) := by decide +kernel
theorem dX11_renameScript_35 : decode cX11_renameScript 35 = .ok (.invokevirtual 126, 3) := by decide +kernel
theorem dX11_renameScript_38 : decode cX11_renameScript 38 = .ok (.goto 60, 3) := by decide +kernel
theorem dX11_renameScript_98 : decode cX11_renameScript 98 = .ok (.return_, 1) := by decide +kernel
theorem dX11_renameScript_41 : decode cX11_renameScript 41 = .ok (.aload_n 0, 1) := by decide +kernel
theorem dX11_renameScript_42 : decode cX11_renameScript 42 = .ok (.getfield 27, 3) := by decide +kernel
theorem dX11_renameScript_45 : decode cX11_renameScript 45 = .ok (.iload_n 1, 1) := by decide +kernel
theorem dX11_renameScript_46 : decode cX11_renameScript 46 = .ok (.aaload, 1) := by decide +kernel
theorem dX11_renameScript_47 : decode cX11_renameScript 47 = .ok (.aload_n 2, 1) := by decide +kernel
theorem dX11_renameScript_48 : decode cX11_renameScript 48 = .ok (.iconst 1, 1) := by decide +kernel
theorem dX11_renameScript_49 : decode cX11_renameScript 49 = .ok (.invokevirtual 377, 3) := by decide +kernel
theorem dX11_renameScript_52 : decode cX11_renameScript 52 = .ok (.ifnull 18, 3) := by decide +kernel
theorem dX11_renameScript_70 : decode cX11_renameScript 70 = .ok (.aload_n 0, 1) := by decide +kernel
theorem dX11_renameScript_71 : decode cX11_renameScript 71 = .ok (.invokevirtual 133, 3) := by decide +kernel
theorem dX11_renameScript_74 : decode cX11_renameScript 74 = .ok (.ifCond .eq 24, 3) := by decide +kernel
theorem dX11_renameScript_77 : decode cX11_renameScript 77 = .ok (.aload_n 3, 1) := by decide +kernel
theorem dX11_renameScript_78 : decode cX11_renameScript 78 = .ok (.aload_n 2, 1) := by decide +kernel
theorem dX11_renameScript_79 : decode cX11_renameScript 79 = .ok (.iconst 1, 1) := by decide +kernel
theorem dX11_renameScript_80 : decode cX11_renameScript 80 = .ok (.invokevirtual 331, 3) := by decide +kernel
theorem dX11_renameScript_83 : decode cX11_renameScript 83 = .ok (.putfield 173, 3) := by decide +kernel
theorem dX11_renameScript_86 : decode cX11_renameScript 86 = .ok (.aload_n 0, 1) := by decide +kernel
theorem dX11_renameScript_87 : decode cX11_renameScript 87 = .ok (.getfield 15, 3) := by decide +kernel
theorem dX11_renameScript_90 : decode cX11_renameScript 90 = .ok (.iload_n 1, 1) := by decide +kernel
theorem dX11_renameScript_91 : decode cX11_renameScript 91 = .ok (.aaload, 1) := by decide +kernel
theorem dX11_renameScript_92 : decode cX11_renameScript 92 = .ok (.ldc_w 375, 3) := by decide +kernel
theorem dX11_renameScript_95 : decode cX11_renameScript 95 = .ok (.invokevirtual 238, 3) := by decide +kernel
theorem dX11_renameScript_55 : decode cX11_renameScript 55 = .ok (.aload_n 0, 1) := by decide +kernel
theorem dX11_renameScript_56 : decode cX11_renameScript 56 = .ok (.getfield 15, 3) := by decide +kernel
theorem dX11_renameScript_59 : decode cX11_renameScript 59 = .ok (.iload_n 1, 1) := by decide +kernel
theorem dX11_renameScript_60 : decode cX11_renameScript 60 = .ok (.aaload, 1) := by decide +kernel
theorem dX11_renameScript_61 : decode cX11_renameScript 61 = .ok (.ldc_w 419, 3) := by decide +kernel
theorem dX11_renameScript_64 : decode cX11_renameScript 64 = .ok (.invokevirtual 126, 3) := by decide +kernel
theorem dX11_renameScript_67 : decode cX11_renameScript 67 = .ok (.goto 31, 3) := by decide +kernel
def fn_X11_renameScript (x1 : Int32) (s : uS) : Option uS := (pgt 25 s 3 x1).bind fun j1 => if uSo j1 8 then ((pgt 26 s 4 x1).bind fun j4 => if uSo j4 10 then ((fn_X10_scriptNamed j4 (j1 + 1) 0 s).bind fun v7 => v7.elim ((pgt 24 s 2 x1).bind fun j10 => if uSo j10 5 then ((fn_X5_refusal j10 kW_5 s).bind fun s14 => some s14) else none) (fun j9 => (pgt 26 s 4 x1).bind fun j16 => if uSo j16 10 then ((fn_X10_scriptNamed j16 (j1 + 1) 1 s).bind fun v19 => v19.elim ((fn_X11_commit s).bind fun r22 => if r22.2 = true then ((fn_X9_copyOf (j1 + 1) 1 r22.1).bind fun r25 => if uIs r25.1 j9 1 then (if ¬ r25.2 = 0 then ((pgt 24 (wR r25.1 j9 0 (some r25.2)) 2 x1).bind fun j29 => if uSo j29 5 then ((fn_X5_line j29 kW_3 (wR r25.1 j9 0 (some r25.2))).bind fun s33 => some s33) else none) else none) else none) else (some r22.1)) (fun j21 => (pgt 24 s 2 x1).bind fun j35 => if uSo j35 5 then ((fn_X5_refusal j35 kW_9 s).bind fun s39 => some s39) else none)) else none)) else none) else none
set_option maxRecDepth 100000 in
set_option maxHeartbeats 4000000 in
theorem xc_X11_renameScript {l : Launch} {D : va_G} {A : Nat → ClassId} {B : Nat} {Z : State → Heap → Prop} {vF : Value} (uk : uK B Z vF) (un : uX A B Z) {x1 : Int32} {s : uS} {r : uS}  (h : fn_X11_renameScript x1 s = some r) : CU l D A B Z 7 mX11_renameScript s [.ref (B + 0), .int x1] (r, none) := by
  unfold fn_X11_renameScript at h
  refine cu_of rfl uk.1.1 (Nat.le_of_ble_eq_true rfl) ?_
  show GU _ _ _ _ _ _ _ _ _ 0 [(0, .ref (B + 0)), (1, .int x1)] []
  refine uu_aload_n dX11_renameScript_0 rfl (List.mem_of_getElem? (i := 0) rfl) ?_
  refine uu_geta (ci := 11) (N := 17) fX11_21 (by decide) so_0.is (by decide) (c := 3) (by decide) dX11_renameScript_1 ?_
  refine uu_iload_n dX11_renameScript_4 rfl (List.mem_of_getElem? (i := 1) rfl) ?_
  obtain ⟨j1, e2, h⟩ := uu_ob h
  refine uu_aald (t := 25) rfl (by decide) e2 dX11_renameScript_5 ?_
  obtain ⟨g3, h⟩ := uu_grd h
  refine uu_getc (ci := 8) (N := 8) fX11_350 (by decide) g3.is (by decide) (c := 1) (by decide) (k2 := j1 + 1) rfl dX11_renameScript_6 ?_
  refine uu_astore_n dX11_renameScript_9 rfl (by decide) rfl ?_
  refine uu_aload_n dX11_renameScript_10 rfl (List.mem_of_getElem? (i := 1) rfl) ?_
  refine uu_geta (ci := 11) (N := 17) fX11_27 (by decide) so_0.is (by decide) (c := 4) (by decide) dX11_renameScript_11 ?_
  refine uu_iload_n dX11_renameScript_14 rfl (List.mem_of_getElem? (i := 2) rfl) ?_
  obtain ⟨j4, e5, h⟩ := uu_ob h
  refine uu_aald (t := 26) rfl (by decide) e5 dX11_renameScript_15 ?_
  obtain ⟨g6, h⟩ := uu_grd h
  refine uu_aload_n dX11_renameScript_16 rfl (List.mem_of_getElem? (i := 0) rfl) ?_
  refine uu_iconst (v := 0) dX11_renameScript_17 (by decide) ?_
  obtain ⟨v7, e8, h⟩ := uu_ob h
  refine uu_cv (d1 := 2) (k := j4) (ci := 10) (T := TX10) (N := 6) (As := [.ref (B + (j1 + 1)), .int 0]) (st := []) (st' := [va_rf (v7.map (fun x => B + x))]) (xc_X10_scriptNamed uk g6 (so_parts g3) e8) g6.is (by decide) rfl kX10_scriptNamed lX11_377 sX10_scriptNamed (by decide) (Nat.le_of_ble_eq_true rfl) dX11_renameScript_18 rfl ?_
  rcases uu_oe h with ⟨eo9, h⟩ | ⟨j9, eo9, h⟩
  · rw [eo9]
    refine uu_astore_nN dX11_renameScript_21 rfl (by decide) rfl ?_
    refine uu_aload_nN dX11_renameScript_22 rfl (List.mem_of_getElem? (i := 0) rfl) ?_
    refine uu_ifnonnullN dX11_renameScript_23 ?_
    refine uu_aload_n dX11_renameScript_26 rfl (List.mem_of_getElem? (i := 2) rfl) ?_
    refine uu_geta (ci := 11) (N := 17) fX11_15 (by decide) so_0.is (by decide) (c := 2) (by decide) dX11_renameScript_27 ?_
    refine uu_iload_n dX11_renameScript_30 rfl (List.mem_of_getElem? (i := 3) rfl) ?_
    obtain ⟨j10, e11, h⟩ := uu_ob h
    refine uu_aald (t := 24) rfl (by decide) e11 dX11_renameScript_31 ?_
    obtain ⟨g12, h⟩ := uu_grd h
    obtain ⟨cq13, cp13, cv13, cw13⟩ := uk.2.1 5 _ rfl
    refine uu_ldcwS cv13 dX11_renameScript_32 ?_
    obtain ⟨s14, e15, h⟩ := uu_ob h
    refine uu_cv (d1 := 6) (k := j10) (ci := 5) (T := TX5) (N := 3) (As := [.ref cq13]) (st := []) (st' := []) (xc_X5_refusal uk g12 cw13 e15) g12.is (by decide) rfl kX5_refusal lX11_126 sX5_refusal (by decide) (Nat.le_of_ble_eq_true rfl) dX11_renameScript_35 rfl ?_
    refine uu_goto (tgt := 98) dX11_renameScript_38 (by decide) ?_
    have hr := Option.some.inj h
    subst hr
    exact uu_vret rfl dX11_renameScript_98
  · rw [eo9]
    refine uu_astore_n dX11_renameScript_21 rfl (by decide) rfl ?_
    refine uu_aload_n dX11_renameScript_22 rfl (List.mem_of_getElem? (i := 0) rfl) ?_
    refine uu_ifnonnull (tgt := 41) dX11_renameScript_23 (by decide) ?_
    refine uu_aload_n dX11_renameScript_41 rfl (List.mem_of_getElem? (i := 2) rfl) ?_
    refine uu_geta (ci := 11) (N := 17) fX11_27 (by decide) so_0.is (by decide) (c := 4) (by decide) dX11_renameScript_42 ?_
    refine uu_iload_n dX11_renameScript_45 rfl (List.mem_of_getElem? (i := 3) rfl) ?_
    obtain ⟨j16, e17, h⟩ := uu_ob h
    refine uu_aald (t := 26) rfl (by decide) e17 dX11_renameScript_46 ?_
    obtain ⟨g18, h⟩ := uu_grd h
    refine uu_aload_n dX11_renameScript_47 rfl (List.mem_of_getElem? (i := 1) rfl) ?_
    refine uu_iconst (v := 1) dX11_renameScript_48 (by decide) ?_
    obtain ⟨v19, e20, h⟩ := uu_ob h
    refine uu_cv (d1 := 2) (k := j16) (ci := 10) (T := TX10) (N := 6) (As := [.ref (B + (j1 + 1)), .int 1]) (st := []) (st' := [va_rf (v19.map (fun x => B + x))]) (xc_X10_scriptNamed uk g18 (so_parts g3) e20) g18.is (by decide) rfl kX10_scriptNamed lX11_377 sX10_scriptNamed (by decide) (Nat.le_of_ble_eq_true rfl) dX11_renameScript_49 rfl ?_
    rcases uu_oe h with ⟨eo21, h⟩ | ⟨j21, eo21, h⟩
    · rw [eo21]
      refine uu_ifnullN (tgt := 70) dX11_renameScript_52 (by decide) ?_
      refine uu_aload_n dX11_renameScript_70 rfl (List.mem_of_getElem? (i := 2) rfl) ?_
      obtain ⟨r22, e23, h⟩ := uu_ob h
      refine uu_cv (d1 := 3) (k := 0) (ci := 11) (T := TX11) (N := 17) (As := []) (st := []) (st' := [.int (bI r22.2)]) (xc_X11_commit uk  e23) so_0.is (by decide) rfl kX11_commit lX11_133 sX11_commit (by decide) (Nat.le_of_ble_eq_true rfl) dX11_renameScript_71 rfl ?_
      refine uu_ifb_eq (tgt := 98) dX11_renameScript_74 (by decide) (fun c24 => ?_) (fun c24 => ?_)
      · replace h := uu_neg c24 h
        have hr := Option.some.inj h
        subst hr
        exact uu_vret rfl dX11_renameScript_98
      · replace h := uu_pos c24 h
        refine uu_aload_n dX11_renameScript_77 rfl (List.mem_of_getElem? (i := 0) rfl) ?_
        refine uu_aload_n dX11_renameScript_78 rfl (List.mem_of_getElem? (i := 1) rfl) ?_
        refine uu_iconst (v := 1) dX11_renameScript_79 (by decide) ?_
        obtain ⟨r25, e26, h⟩ := uu_ob h
        refine uu_cv (d1 := 3) (k := j1 + 1) (ci := 9) (T := TX9) (N := 6) (As := [.int 1]) (st := [.ref (B + j9)]) (st' := [.ref (B + r25.2), .ref (B + j9)]) (xc_X9_copyOf uk un (so_parts g3) e26) (so_parts g3).is (by decide) rfl kX9_copyOf lX11_331 sX9_copyOf (by decide) (Nat.le_of_ble_eq_true rfl) dX11_renameScript_80 rfl ?_
        obtain ⟨g27, h⟩ := uu_grd h
        obtain ⟨g28, h⟩ := uu_grd h
        refine uu_eqv (.ref (uad A B r25.2)) (by rw [uad_ne g28]) ?_
        refine uu_putl (x := r25.2) (ft := (.array .byte)) (ci := 1) (N := 6) fX11_173 ptX1 (Or.inl rfl) (by decide) g27 (by decide) (by decide) (by decide +kernel) rfl rfl dX11_renameScript_83 ?_
        refine uu_aload_n dX11_renameScript_86 rfl (List.mem_of_getElem? (i := 2) rfl) ?_
        refine uu_geta (ci := 11) (N := 17) fX11_15 (by decide) so_0.is (by decide) (c := 2) (by decide) dX11_renameScript_87 ?_
        refine uu_iload_n dX11_renameScript_90 rfl (List.mem_of_getElem? (i := 3) rfl) ?_
        obtain ⟨j29, e30, h⟩ := uu_ob h
        refine uu_aald (t := 24) rfl (by decide) e30 dX11_renameScript_91 ?_
        obtain ⟨g31, h⟩ := uu_grd h
        obtain ⟨cq32, cp32, cv32, cw32⟩ := uk.2.1 3 _ rfl
        refine uu_ldcwS cv32 dX11_renameScript_92 ?_
        obtain ⟨s33, e34, h⟩ := uu_ob h
        refine uu_cv (d1 := 5) (k := j29) (ci := 5) (T := TX5) (N := 3) (As := [.ref cq32]) (st := []) (st' := []) (xc_X5_line uk g31 cw32 e34) g31.is (by decide) rfl kX5_line lX11_238 sX5_line (by decide) (Nat.le_of_ble_eq_true rfl) dX11_renameScript_95 rfl ?_
        have hr := Option.some.inj h
        subst hr
        exact uu_vret rfl dX11_renameScript_98
    · rw [eo21]
      refine uu_ifnull dX11_renameScript_52 ?_
      refine uu_aload_n dX11_renameScript_55 rfl (List.mem_of_getElem? (i := 2) rfl) ?_
      refine uu_geta (ci := 11) (N := 17) fX11_15 (by decide) so_0.is (by decide) (c := 2) (by decide) dX11_renameScript_56 ?_
      refine uu_iload_n dX11_renameScript_59 rfl (List.mem_of_getElem? (i := 3) rfl) ?_
      obtain ⟨j35, e36, h⟩ := uu_ob h
      refine uu_aald (t := 24) rfl (by decide) e36 dX11_renameScript_60 ?_
      obtain ⟨g37, h⟩ := uu_grd h
      obtain ⟨cq38, cp38, cv38, cw38⟩ := uk.2.1 9 _ rfl
      refine uu_ldcwS cv38 dX11_renameScript_61 ?_
      obtain ⟨s39, e40, h⟩ := uu_ob h
      refine uu_cv (d1 := 6) (k := j35) (ci := 5) (T := TX5) (N := 3) (As := [.ref cq38]) (st := []) (st' := []) (xc_X5_refusal uk g37 cw38 e40) g37.is (by decide) rfl kX5_refusal lX11_126 sX5_refusal (by decide) (Nat.le_of_ble_eq_true rfl) dX11_renameScript_64 rfl ?_
      refine uu_goto (tgt := 98) dX11_renameScript_67 (by decide) ?_
      have hr := Option.some.inj h
      subst hr
      exact uu_vret rfl dX11_renameScript_98
theorem dX11_execute_0 : decode cX11_execute 0 = .ok (.iload_n 2, 1) := by decide +kernel
theorem dX11_execute_1 : decode cX11_execute 1 = .ok (.tableswitch 166 0 8 #[51, 51, 103, 111, 119, 127, 135, 143, 151], 51) := by decide +kernel
theorem dX11_execute_52 : decode cX11_execute 52 = .ok (.aload_n 0, 1) := by decide +kernel
theorem dX11_execute_53 : decode cX11_execute 53 = .ok (.getfield 21, 3) := by decide +kernel
theorem dX11_execute_56 : decode cX11_execute 56 = .ok (.iload_n 1, 1) := by decide +kernel
theorem dX11_execute_57 : decode cX11_execute 57 = .ok (.aaload, 1) := by decide +kernel
theorem dX11_execute_58 : decode cX11_execute 58 = .ok (.getfield 350, 3) := by decide +kernel
theorem dX11_execute_61 : decode cX11_execute 61 = .ok (.astore_n 3, 1) := by decide +kernel
theorem dX11_execute_62 : decode cX11_execute 62 = .ok (.aload_n 3, 1) := by decide +kernel
theorem dX11_execute_63 : decode cX11_execute 63 = .ok (.getfield 207, 3) := by decide +kernel
theorem dX11_execute_66 : decode cX11_execute 66 = .ok (.iconst 1, 1) := by decide +kernel
theorem dX11_execute_67 : decode cX11_execute 67 = .ok (.isub, 1) := by decide +kernel
theorem dX11_execute_68 : decode cX11_execute 68 = .ok (.istore 4, 2) := by decide +kernel
theorem dX11_execute_70 : decode cX11_execute 70 = .ok (.aload_n 0, 1) := by decide +kernel
theorem dX11_execute_71 : decode cX11_execute 71 = .ok (.iload_n 1, 1) := by decide +kernel
theorem dX11_execute_72 : decode cX11_execute 72 = .ok (.iload_n 2, 1) := by decide +kernel
theorem dX11_execute_73 : decode cX11_execute 73 = .ok (.aload_n 0, 1) := by decide +kernel
theorem dX11_execute_74 : decode cX11_execute 74 = .ok (.getfield 40, 3) := by decide +kernel
theorem dX11_execute_77 : decode cX11_execute 77 = .ok (.aload_n 3, 1) := by decide +kernel
theorem dX11_execute_78 : decode cX11_execute 78 = .ok (.getfield 188, 3) := by decide +kernel
theorem dX11_execute_81 : decode cX11_execute 81 = .ok (.aload_n 3, 1) := by decide +kernel
theorem dX11_execute_82 : decode cX11_execute 82 = .ok (.getfield 185, 3) := by decide +kernel
theorem dX11_execute_85 : decode cX11_execute 85 = .ok (.iload 4, 2) := by decide +kernel
theorem dX11_execute_87 : decode cX11_execute 87 = .ok (.iaload, 1) := by decide +kernel
theorem dX11_execute_88 : decode cX11_execute 88 = .ok (.aload_n 3, 1) := by decide +kernel
theorem dX11_execute_89 : decode cX11_execute 89 = .ok (.getfield 179, 3) := by decide +kernel
theorem dX11_execute_92 : decode cX11_execute 92 = .ok (.iload 4, 2) := by decide +kernel
theorem dX11_execute_94 : decode cX11_execute 94 = .ok (.iaload, 1) := by decide +kernel
theorem dX11_execute_95 : decode cX11_execute 95 = .ok (.invokevirtual 252, 3) := by decide +kernel
theorem kX11_takeScript : h_ml mX11_takeScript 3 := ⟨h_t7 60 rfl rfl, h_t1 1 rfl rfl, ⟨by decide, by decide, by decide +kernel⟩, by decide⟩
theorem lX11_353 : Cond.methodLink RX11 353 mX11_takeScript.1 ∈ lw_g := h_t7 57 rfl rfl
theorem sX11_takeScript : Cond.instanceMethod mX11_takeScript.1 ∈ lw_g ∧ Cond.selects mX11_takeScript.1.cls mX11_takeScript.1 mX11_takeScript.1 ∈ lw_g := ⟨h_t7 59 rfl rfl, h_ins 87 rfl⟩
theorem dX11_execute_98 : decode cX11_execute 98 = .ok (.invokevirtual 353, 3) := by decide +kernel
theorem dX11_execute_101 : decode cX11_execute 101 = .ok (.goto 77, 3) := by decide +kernel
theorem dX11_execute_178 : decode cX11_execute 178 = .ok (.return_, 1) := by decide +kernel
theorem dX11_execute_104 : decode cX11_execute 104 = .ok (.aload_n 0, 1) := by decide +kernel
theorem dX11_execute_105 : decode cX11_execute 105 = .ok (.iload_n 1, 1) := by decide +kernel
theorem kX11_haveSpace : h_ml mX11_haveSpace 1 := ⟨h_t7 95 rfl rfl, h_t1 1 rfl rfl, ⟨by decide, by decide, by decide +kernel⟩, by decide⟩
theorem lX11_357 : Cond.methodLink RX11 357 mX11_haveSpace.1 ∈ lw_g := h_t7 92 rfl rfl
theorem sX11_haveSpace : Cond.instanceMethod mX11_haveSpace.1 ∈ lw_g ∧ Cond.selects mX11_haveSpace.1.cls mX11_haveSpace.1 mX11_haveSpace.1 ∈ lw_g := ⟨h_t7 94 rfl rfl, h_ins 89 rfl⟩
theorem dX11_execute_106 : decode cX11_execute 106 = .ok (.invokevirtual 357, 3) := by decide +kernel
theorem dX11_execute_109 : decode cX11_execute 109 = .ok (.goto 69, 3) := by decide +kernel
theorem dX11_execute_112 : decode cX11_execute 112 = .ok (.aload_n 0, 1) := by decide +kernel
theorem dX11_execute_113 : decode cX11_execute 113 = .ok (.iload_n 1, 1) := by decide +kernel
theorem kX11_setActive : h_ml mX11_setActive 1 := ⟨h_t7 99 rfl rfl, h_t1 1 rfl rfl, ⟨by decide, by decide, by decide +kernel⟩, by decide⟩
theorem lX11_360 : Cond.methodLink RX11 360 mX11_setActive.1 ∈ lw_g := h_t7 96 rfl rfl
theorem sX11_setActive : Cond.instanceMethod mX11_setActive.1 ∈ lw_g ∧ Cond.selects mX11_setActive.1.cls mX11_setActive.1 mX11_setActive.1 ∈ lw_g := ⟨h_t7 98 rfl rfl, h_ins 90 rfl⟩
theorem dX11_execute_114 : decode cX11_execute 114 = .ok (.invokevirtual 360, 3) := by decide +kernel
theorem dX11_execute_117 : decode cX11_execute 117 = .ok (.goto 61, 3) := by decide +kernel
theorem dX11_execute_120 : decode cX11_execute 120 = .ok (.aload_n 0, 1) := by decide +kernel
theorem dX11_execute_121 : decode cX11_execute 121 = .ok (.iload_n 1, 1) := by decide +kernel
theorem kX11_getScript : h_ml mX11_getScript 1 := ⟨h_t7 105 rfl rfl, h_t1 1 rfl rfl, ⟨by decide, by decide, by decide +kernel⟩, by decide⟩
theorem lX11_363 : Cond.methodLink RX11 363 mX11_getScript.1 ∈ lw_g := h_t7 102 rfl rfl
theorem sX11_getScript : Cond.instanceMethod mX11_getScript.1 ∈ lw_g ∧ Cond.selects mX11_getScript.1.cls mX11_getScript.1 mX11_getScript.1 ∈ lw_g := ⟨h_t7 104 rfl rfl, h_ins 91 rfl⟩
theorem dX11_execute_122 : decode cX11_execute 122 = .ok (.invokevirtual 363, 3) := by decide +kernel
theorem dX11_execute_125 : decode cX11_execute 125 = .ok (.goto 53, 3) := by decide +kernel
theorem dX11_execute_128 : decode cX11_execute 128 = .ok (.aload_n 0, 1) := by decide +kernel
theorem dX11_execute_129 : decode cX11_execute 129 = .ok (.iload_n 1, 1) := by decide +kernel
theorem kX11_listScripts : h_ml mX11_listScripts 1 := ⟨h_t7 116 rfl rfl, h_t1 1 rfl rfl, ⟨by decide, by decide, by decide +kernel⟩, by decide⟩
theorem lX11_366 : Cond.methodLink RX11 366 mX11_listScripts.1 ∈ lw_g := h_t7 113 rfl rfl
theorem sX11_listScripts : Cond.instanceMethod mX11_listScripts.1 ∈ lw_g ∧ Cond.selects mX11_listScripts.1.cls mX11_listScripts.1 mX11_listScripts.1 ∈ lw_g := ⟨h_t7 115 rfl rfl, h_ins 92 rfl⟩
theorem dX11_execute_130 : decode cX11_execute 130 = .ok (.invokevirtual 366, 3) := by decide +kernel
theorem dX11_execute_133 : decode cX11_execute 133 = .ok (.goto 45, 3) := by decide +kernel
theorem dX11_execute_136 : decode cX11_execute 136 = .ok (.aload_n 0, 1) := by decide +kernel
theorem dX11_execute_137 : decode cX11_execute 137 = .ok (.iload_n 1, 1) := by decide +kernel
theorem kX11_deleteScript : h_ml mX11_deleteScript 1 := ⟨h_t7 126 rfl rfl, h_t1 1 rfl rfl, ⟨by decide, by decide, by decide +kernel⟩, by decide⟩
theorem lX11_369 : Cond.methodLink RX11 369 mX11_deleteScript.1 ∈ lw_g := h_t7 123 rfl rfl
theorem sX11_deleteScript : Cond.instanceMethod mX11_deleteScript.1 ∈ lw_g ∧ Cond.selects mX11_deleteScript.1.cls mX11_deleteScript.1 mX11_deleteScript.1 ∈ lw_g := ⟨h_t7 125 rfl rfl, h_ins 93 rfl⟩
theorem dX11_execute_138 : decode cX11_execute 138 = .ok (.invokevirtual 369, 3) := by decide +kernel
theorem dX11_execute_141 : decode cX11_execute 141 = .ok (.goto 37, 3) := by decide +kernel
theorem dX11_execute_144 : decode cX11_execute 144 = .ok (.aload_n 0, 1) := by decide +kernel
theorem dX11_execute_145 : decode cX11_execute 145 = .ok (.iload_n 1, 1) := by decide +kernel
theorem kX11_renameScript : h_ml mX11_renameScript 1 := ⟨h_t7 135 rfl rfl, h_t1 1 rfl rfl, ⟨by decide, by decide, by decide +kernel⟩, by decide⟩
theorem lX11_372 : Cond.methodLink RX11 372 mX11_renameScript.1 ∈ lw_g := h_t7 132 rfl rfl
theorem sX11_renameScript : Cond.instanceMethod mX11_renameScript.1 ∈ lw_g ∧ Cond.selects mX11_renameScript.1.cls mX11_renameScript.1 mX11_renameScript.1 ∈ lw_g := ⟨h_t7 134 rfl rfl, h_ins 94 rfl⟩
theorem dX11_execute_146 : decode cX11_execute 146 = .ok (.invokevirtual 372, 3) := by decide +kernel
theorem dX11_execute_149 : decode cX11_execute 149 = .ok (.goto 29, 3) := by decide +kernel
theorem dX11_execute_152 : decode cX11_execute 152 = .ok (.aload_n 0, 1) := by decide +kernel
theorem dX11_execute_153 : decode cX11_execute 153 = .ok (.getfield 15, 3) := by decide +kernel
theorem dX11_execute_156 : decode cX11_execute 156 = .ok (.iload_n 1, 1) := by decide +kernel
theorem dX11_execute_157 : decode cX11_execute 157 = .ok (.aaload, 1) := by decide +kernel
theorem dX11_execute_158 : decode cX11_execute 158 = .ok (.ldc_w 375, 3) := by decide +kernel
theorem dX11_execute_161 : decode cX11_execute 161 = .ok (.invokevirtual 238, 3) := by decide +kernel
theorem dX11_execute_164 : decode cX11_execute 164 = .ok (.goto 14, 3) := by decide +kernel
theorem dX11_execute_167 : decode cX11_execute 167 = .ok (.aload_n 0, 1) := by decide +kernel
theorem dX11_execute_168 : decode cX11_execute 168 = .ok (.getfield 15, 3) := by decide +kernel
theorem dX11_execute_171 : decode cX11_execute 171 = .ok (.iload_n 1, 1) := by decide +kernel
theorem dX11_execute_172 : decode cX11_execute 172 = .ok (.aaload, 1) := by decide +kernel
theorem dX11_execute_173 : decode cX11_execute 173 = .ok (.ldc 124, 2) := by decide +kernel
theorem dX11_execute_175 : decode cX11_execute 175 = .ok (.invokevirtual 126, 3) := by decide +kernel
def fn_X11_execute (x1 : Int32) (x2 : Int32) (s : uS) : Option uS := if x2 = 0 then ((pgt 25 s 3 x1).bind fun j1 => if uSo j1 8 then ((iget 20 s (j1 + 1 + 2) ((s.I (j1 + 1) 3) - 1)).bind fun v4 => (iget 20 s (j1 + 1 + 3) ((s.I (j1 + 1) 3) - 1)).bind fun v6 => (fn_X4_parse (j1 + 1 + 1) v4 v6 s).bind fun r8 => (fn_X11_takeScript x1 x2 r8.2 r8.1).bind fun s10 => some s10) else none) else (if x2 = 1 then ((pgt 25 s 3 x1).bind fun j12 => if uSo j12 8 then ((iget 20 s (j12 + 1 + 2) ((s.I (j12 + 1) 3) - 1)).bind fun v15 => (iget 20 s (j12 + 1 + 3) ((s.I (j12 + 1) 3) - 1)).bind fun v17 => (fn_X4_parse (j12 + 1 + 1) v15 v17 s).bind fun r19 => (fn_X11_takeScript x1 x2 r19.2 r19.1).bind fun s21 => some s21) else none) else (if x2 = 2 then ((fn_X11_haveSpace x1 s).bind fun s23 => some s23) else (if x2 = 3 then ((fn_X11_setActive x1 s).bind fun s25 => some s25) else (if x2 = 4 then ((fn_X11_getScript x1 s).bind fun s27 => some s27) else (if x2 = 5 then ((fn_X11_listScripts x1 s).bind fun s29 => some s29) else (if x2 = 6 then ((fn_X11_deleteScript x1 s).bind fun s31 => some s31) else (if x2 = 7 then ((fn_X11_renameScript x1 s).bind fun s33 => some s33) else (if x2 = 8 then ((pgt 24 s 2 x1).bind fun j35 => if uSo j35 5 then ((fn_X5_line j35 kW_3 s).bind fun s39 => some s39) else none) else ((pgt 24 s 2 x1).bind fun j41 => if uSo j41 5 then ((fn_X5_refusal j41 kW_0 s).bind fun s45 => some s45) else none)))))))))
set_option maxRecDepth 100000 in
set_option maxHeartbeats 4000000 in
theorem xc_X11_execute {l : Launch} {D : va_G} {A : Nat → ClassId} {B : Nat} {Z : State → Heap → Prop} {vF : Value} (uk : uK B Z vF) (un : uX A B Z) {x1 : Int32} {x2 : Int32} {s : uS} {r : uS}  (h : fn_X11_execute x1 x2 s = some r) : CU l D A B Z 9 mX11_execute s [.ref (B + 0), .int x1, .int x2] (r, none) := by
  unfold fn_X11_execute at h
  refine cu_of rfl uk.1.1 (Nat.le_of_ble_eq_true rfl) ?_
  show GU _ _ _ _ _ _ _ _ _ 0 [(0, .ref (B + 0)), (1, .int x1), (2, .int x2)] []
  refine uu_iload_n dX11_execute_0 rfl (List.mem_of_getElem? (i := 2) rfl) ?_
  by_cases c1_0 : x2 = 0
  · replace h := uu_pos c1_0 h
    refine uu_tabE (tgt := 52) (off := 51) (v := 0) dX11_execute_1 c1_0 (by decide) (by decide) rfl (by decide) ?_
    refine uu_aload_n dX11_execute_52 rfl (List.mem_of_getElem? (i := 0) rfl) ?_
    refine uu_geta (ci := 11) (N := 17) fX11_21 (by decide) so_0.is (by decide) (c := 3) (by decide) dX11_execute_53 ?_
    refine uu_iload_n dX11_execute_56 rfl (List.mem_of_getElem? (i := 1) rfl) ?_
    obtain ⟨j1, e2, h⟩ := uu_ob h
    refine uu_aald (t := 25) rfl (by decide) e2 dX11_execute_57 ?_
    obtain ⟨g3, h⟩ := uu_grd h
    refine uu_getc (ci := 8) (N := 8) fX11_350 (by decide) g3.is (by decide) (c := 1) (by decide) (k2 := j1 + 1) rfl dX11_execute_58 ?_
    refine uu_astore_n dX11_execute_61 rfl (by decide) rfl ?_
    refine uu_aload_n dX11_execute_62 rfl (List.mem_of_getElem? (i := 0) rfl) ?_
    refine uu_geti (ci := 9) (N := 6) fX11_207 (by decide) (so_parts g3).is (by decide) (by decide) dX11_execute_63 ?_
    refine uu_iconst (v := 1) dX11_execute_66 (by decide) ?_
    refine uu_isub dX11_execute_67 ?_
    refine uu_istore dX11_execute_68 (by decide) rfl ?_
    refine uu_aload_n dX11_execute_70 rfl (List.mem_of_getElem? (i := 2) rfl) ?_
    refine uu_iload_n dX11_execute_71 rfl (List.mem_of_getElem? (i := 3) rfl) ?_
    refine uu_iload_n dX11_execute_72 rfl (List.mem_of_getElem? (i := 4) rfl) ?_
    refine uu_aload_n dX11_execute_73 rfl (List.mem_of_getElem? (i := 2) rfl) ?_
    refine uu_geta (ci := 11) (N := 17) fX11_40 (by decide) so_0.is (by decide) (c := 6) (by decide) dX11_execute_74 ?_
    refine uu_aload_n dX11_execute_77 rfl (List.mem_of_getElem? (i := 1) rfl) ?_
    refine uu_getc (ci := 9) (N := 6) fX11_188 (by decide) (so_parts g3).is (by decide) (c := 1) (by decide) (k2 := j1 + 1 + 1) rfl dX11_execute_78 ?_
    refine uu_aload_n dX11_execute_81 rfl (List.mem_of_getElem? (i := 1) rfl) ?_
    refine uu_getc (ci := 9) (N := 6) fX11_185 (by decide) (so_parts g3).is (by decide) (c := 2) (by decide) (k2 := j1 + 1 + 2) rfl dX11_execute_82 ?_
    refine uu_iload dX11_execute_85 (List.mem_of_getElem? (i := 0) rfl) ?_
    obtain ⟨v4, e5, h⟩ := uu_ob h
    refine uu_iald e5 dX11_execute_87 ?_
    refine uu_aload_n dX11_execute_88 rfl (List.mem_of_getElem? (i := 1) rfl) ?_
    refine uu_getc (ci := 9) (N := 6) fX11_179 (by decide) (so_parts g3).is (by decide) (c := 3) (by decide) (k2 := j1 + 1 + 3) rfl dX11_execute_89 ?_
    refine uu_iload dX11_execute_92 (List.mem_of_getElem? (i := 0) rfl) ?_
    obtain ⟨v6, e7, h⟩ := uu_ob h
    refine uu_iald e7 dX11_execute_94 ?_
    obtain ⟨r8, e9, h⟩ := uu_ob h
    refine uu_cv (d1 := 8) (k := 6) (ci := 4) (T := TX4) (N := 9) (As := [.ref (B + (j1 + 1 + 1)), .int v4, .int v6]) (st := [.int x2, .int x1, .ref (B + 0)]) (st' := [.int r8.2, .int x2, .int x1, .ref (B + 0)]) (xc_X4_parse uk un  e9) so_6.is (by decide) rfl kX4_parse lX11_252 sX4_parse (by decide) (Nat.le_of_ble_eq_true rfl) dX11_execute_95 rfl ?_
    obtain ⟨s10, e11, h⟩ := uu_ob h
    refine uu_cv (d1 := 7) (k := 0) (ci := 11) (T := TX11) (N := 17) (As := [.int x1, .int x2, .int r8.2]) (st := []) (st' := []) (xc_X11_takeScript uk un  e11) so_0.is (by decide) rfl kX11_takeScript lX11_353 sX11_takeScript (by decide) (Nat.le_of_ble_eq_true rfl) dX11_execute_98 rfl ?_
    refine uu_goto (tgt := 178) dX11_execute_101 (by decide) ?_
    have hr := Option.some.inj h
    subst hr
    exact uu_vret rfl dX11_execute_178
  replace h := uu_neg c1_0 h
  by_cases c1_1 : x2 = 1
  · replace h := uu_pos c1_1 h
    refine uu_tabE (tgt := 52) (off := 51) (v := 1) dX11_execute_1 c1_1 (by decide) (by decide) rfl (by decide) ?_
    refine uu_aload_n dX11_execute_52 rfl (List.mem_of_getElem? (i := 0) rfl) ?_
    refine uu_geta (ci := 11) (N := 17) fX11_21 (by decide) so_0.is (by decide) (c := 3) (by decide) dX11_execute_53 ?_
    refine uu_iload_n dX11_execute_56 rfl (List.mem_of_getElem? (i := 1) rfl) ?_
    obtain ⟨j12, e13, h⟩ := uu_ob h
    refine uu_aald (t := 25) rfl (by decide) e13 dX11_execute_57 ?_
    obtain ⟨g14, h⟩ := uu_grd h
    refine uu_getc (ci := 8) (N := 8) fX11_350 (by decide) g14.is (by decide) (c := 1) (by decide) (k2 := j12 + 1) rfl dX11_execute_58 ?_
    refine uu_astore_n dX11_execute_61 rfl (by decide) rfl ?_
    refine uu_aload_n dX11_execute_62 rfl (List.mem_of_getElem? (i := 0) rfl) ?_
    refine uu_geti (ci := 9) (N := 6) fX11_207 (by decide) (so_parts g14).is (by decide) (by decide) dX11_execute_63 ?_
    refine uu_iconst (v := 1) dX11_execute_66 (by decide) ?_
    refine uu_isub dX11_execute_67 ?_
    refine uu_istore dX11_execute_68 (by decide) rfl ?_
    refine uu_aload_n dX11_execute_70 rfl (List.mem_of_getElem? (i := 2) rfl) ?_
    refine uu_iload_n dX11_execute_71 rfl (List.mem_of_getElem? (i := 3) rfl) ?_
    refine uu_iload_n dX11_execute_72 rfl (List.mem_of_getElem? (i := 4) rfl) ?_
    refine uu_aload_n dX11_execute_73 rfl (List.mem_of_getElem? (i := 2) rfl) ?_
    refine uu_geta (ci := 11) (N := 17) fX11_40 (by decide) so_0.is (by decide) (c := 6) (by decide) dX11_execute_74 ?_
    refine uu_aload_n dX11_execute_77 rfl (List.mem_of_getElem? (i := 1) rfl) ?_
    refine uu_getc (ci := 9) (N := 6) fX11_188 (by decide) (so_parts g14).is (by decide) (c := 1) (by decide) (k2 := j12 + 1 + 1) rfl dX11_execute_78 ?_
    refine uu_aload_n dX11_execute_81 rfl (List.mem_of_getElem? (i := 1) rfl) ?_
    refine uu_getc (ci := 9) (N := 6) fX11_185 (by decide) (so_parts g14).is (by decide) (c := 2) (by decide) (k2 := j12 + 1 + 2) rfl dX11_execute_82 ?_
    refine uu_iload dX11_execute_85 (List.mem_of_getElem? (i := 0) rfl) ?_
    obtain ⟨v15, e16, h⟩ := uu_ob h
    refine uu_iald e16 dX11_execute_87 ?_
    refine uu_aload_n dX11_execute_88 rfl (List.mem_of_getElem? (i := 1) rfl) ?_
    refine uu_getc (ci := 9) (N := 6) fX11_179 (by decide) (so_parts g14).is (by decide) (c := 3) (by decide) (k2 := j12 + 1 + 3) rfl dX11_execute_89 ?_
    refine uu_iload dX11_execute_92 (List.mem_of_getElem? (i := 0) rfl) ?_
    obtain ⟨v17, e18, h⟩ := uu_ob h
    refine uu_iald e18 dX11_execute_94 ?_
    obtain ⟨r19, e20, h⟩ := uu_ob h
    refine uu_cv (d1 := 8) (k := 6) (ci := 4) (T := TX4) (N := 9) (As := [.ref (B + (j12 + 1 + 1)), .int v15, .int v17]) (st := [.int x2, .int x1, .ref (B + 0)]) (st' := [.int r19.2, .int x2, .int x1, .ref (B + 0)]) (xc_X4_parse uk un  e20) so_6.is (by decide) rfl kX4_parse lX11_252 sX4_parse (by decide) (Nat.le_of_ble_eq_true rfl) dX11_execute_95 rfl ?_
    obtain ⟨s21, e22, h⟩ := uu_ob h
    refine uu_cv (d1 := 7) (k := 0) (ci := 11) (T := TX11) (N := 17) (As := [.int x1, .int x2, .int r19.2]) (st := []) (st' := []) (xc_X11_takeScript uk un  e22) so_0.is (by decide) rfl kX11_takeScript lX11_353 sX11_takeScript (by decide) (Nat.le_of_ble_eq_true rfl) dX11_execute_98 rfl ?_
    refine uu_goto (tgt := 178) dX11_execute_101 (by decide) ?_
    have hr := Option.some.inj h
    subst hr
    exact uu_vret rfl dX11_execute_178
  replace h := uu_neg c1_1 h
  by_cases c1_2 : x2 = 2
  · replace h := uu_pos c1_2 h
    refine uu_tabE (tgt := 104) (off := 103) (v := 2) dX11_execute_1 c1_2 (by decide) (by decide) rfl (by decide) ?_
    refine uu_aload_n dX11_execute_104 rfl (List.mem_of_getElem? (i := 0) rfl) ?_
    refine uu_iload_n dX11_execute_105 rfl (List.mem_of_getElem? (i := 1) rfl) ?_
    obtain ⟨s23, e24, h⟩ := uu_ob h
    refine uu_cv (d1 := 7) (k := 0) (ci := 11) (T := TX11) (N := 17) (As := [.int x1]) (st := []) (st' := []) (xc_X11_haveSpace uk  e24) so_0.is (by decide) rfl kX11_haveSpace lX11_357 sX11_haveSpace (by decide) (Nat.le_of_ble_eq_true rfl) dX11_execute_106 rfl ?_
    refine uu_goto (tgt := 178) dX11_execute_109 (by decide) ?_
    have hr := Option.some.inj h
    subst hr
    exact uu_vret rfl dX11_execute_178
  replace h := uu_neg c1_2 h
  by_cases c1_3 : x2 = 3
  · replace h := uu_pos c1_3 h
    refine uu_tabE (tgt := 112) (off := 111) (v := 3) dX11_execute_1 c1_3 (by decide) (by decide) rfl (by decide) ?_
    refine uu_aload_n dX11_execute_112 rfl (List.mem_of_getElem? (i := 0) rfl) ?_
    refine uu_iload_n dX11_execute_113 rfl (List.mem_of_getElem? (i := 1) rfl) ?_
    obtain ⟨s25, e26, h⟩ := uu_ob h
    refine uu_cv (d1 := 7) (k := 0) (ci := 11) (T := TX11) (N := 17) (As := [.int x1]) (st := []) (st' := []) (xc_X11_setActive uk  e26) so_0.is (by decide) rfl kX11_setActive lX11_360 sX11_setActive (by decide) (Nat.le_of_ble_eq_true rfl) dX11_execute_114 rfl ?_
    refine uu_goto (tgt := 178) dX11_execute_117 (by decide) ?_
    have hr := Option.some.inj h
    subst hr
    exact uu_vret rfl dX11_execute_178
  replace h := uu_neg c1_3 h
  by_cases c1_4 : x2 = 4
  · replace h := uu_pos c1_4 h
    refine uu_tabE (tgt := 120) (off := 119) (v := 4) dX11_execute_1 c1_4 (by decide) (by decide) rfl (by decide) ?_
    refine uu_aload_n dX11_execute_120 rfl (List.mem_of_getElem? (i := 0) rfl) ?_
    refine uu_iload_n dX11_execute_121 rfl (List.mem_of_getElem? (i := 1) rfl) ?_
    obtain ⟨s27, e28, h⟩ := uu_ob h
    refine uu_cv (d1 := 7) (k := 0) (ci := 11) (T := TX11) (N := 17) (As := [.int x1]) (st := []) (st' := []) (xc_X11_getScript uk  e28) so_0.is (by decide) rfl kX11_getScript lX11_363 sX11_getScript (by decide) (Nat.le_of_ble_eq_true rfl) dX11_execute_122 rfl ?_
    refine uu_goto (tgt := 178) dX11_execute_125 (by decide) ?_
    have hr := Option.some.inj h
    subst hr
    exact uu_vret rfl dX11_execute_178
  replace h := uu_neg c1_4 h
  by_cases c1_5 : x2 = 5
  · replace h := uu_pos c1_5 h
    refine uu_tabE (tgt := 128) (off := 127) (v := 5) dX11_execute_1 c1_5 (by decide) (by decide) rfl (by decide) ?_
    refine uu_aload_n dX11_execute_128 rfl (List.mem_of_getElem? (i := 0) rfl) ?_
    refine uu_iload_n dX11_execute_129 rfl (List.mem_of_getElem? (i := 1) rfl) ?_
    obtain ⟨s29, e30, h⟩ := uu_ob h
    refine uu_cv (d1 := 6) (k := 0) (ci := 11) (T := TX11) (N := 17) (As := [.int x1]) (st := []) (st' := []) (xc_X11_listScripts uk  e30) so_0.is (by decide) rfl kX11_listScripts lX11_366 sX11_listScripts (by decide) (Nat.le_of_ble_eq_true rfl) dX11_execute_130 rfl ?_
    refine uu_goto (tgt := 178) dX11_execute_133 (by decide) ?_
    have hr := Option.some.inj h
    subst hr
    exact uu_vret rfl dX11_execute_178
  replace h := uu_neg c1_5 h
  by_cases c1_6 : x2 = 6
  · replace h := uu_pos c1_6 h
    refine uu_tabE (tgt := 136) (off := 135) (v := 6) dX11_execute_1 c1_6 (by decide) (by decide) rfl (by decide) ?_
    refine uu_aload_n dX11_execute_136 rfl (List.mem_of_getElem? (i := 0) rfl) ?_
    refine uu_iload_n dX11_execute_137 rfl (List.mem_of_getElem? (i := 1) rfl) ?_
    obtain ⟨s31, e32, h⟩ := uu_ob h
    refine uu_cv (d1 := 7) (k := 0) (ci := 11) (T := TX11) (N := 17) (As := [.int x1]) (st := []) (st' := []) (xc_X11_deleteScript uk  e32) so_0.is (by decide) rfl kX11_deleteScript lX11_369 sX11_deleteScript (by decide) (Nat.le_of_ble_eq_true rfl) dX11_execute_138 rfl ?_
    refine uu_goto (tgt := 178) dX11_execute_141 (by decide) ?_
    have hr := Option.some.inj h
    subst hr
    exact uu_vret rfl dX11_execute_178
  replace h := uu_neg c1_6 h
  by_cases c1_7 : x2 = 7
  · replace h := uu_pos c1_7 h
    refine uu_tabE (tgt := 144) (off := 143) (v := 7) dX11_execute_1 c1_7 (by decide) (by decide) rfl (by decide) ?_
    refine uu_aload_n dX11_execute_144 rfl (List.mem_of_getElem? (i := 0) rfl) ?_
    refine uu_iload_n dX11_execute_145 rfl (List.mem_of_getElem? (i := 1) rfl) ?_
    obtain ⟨s33, e34, h⟩ := uu_ob h
    refine uu_cv (d1 := 7) (k := 0) (ci := 11) (T := TX11) (N := 17) (As := [.int x1]) (st := []) (st' := []) (xc_X11_renameScript uk un  e34) so_0.is (by decide) rfl kX11_renameScript lX11_372 sX11_renameScript (by decide) (Nat.le_of_ble_eq_true rfl) dX11_execute_146 rfl ?_
    refine uu_goto (tgt := 178) dX11_execute_149 (by decide) ?_
    have hr := Option.some.inj h
    subst hr
    exact uu_vret rfl dX11_execute_178
  replace h := uu_neg c1_7 h
  by_cases c1_8 : x2 = 8
  · replace h := uu_pos c1_8 h
    refine uu_tabE (tgt := 152) (off := 151) (v := 8) dX11_execute_1 c1_8 (by decide) (by decide) rfl (by decide) ?_
    refine uu_aload_n dX11_execute_152 rfl (List.mem_of_getElem? (i := 0) rfl) ?_
    refine uu_geta (ci := 11) (N := 17) fX11_15 (by decide) so_0.is (by decide) (c := 2) (by decide) dX11_execute_153 ?_
    refine uu_iload_n dX11_execute_156 rfl (List.mem_of_getElem? (i := 1) rfl) ?_
    obtain ⟨j35, e36, h⟩ := uu_ob h
    refine uu_aald (t := 24) rfl (by decide) e36 dX11_execute_157 ?_
    obtain ⟨g37, h⟩ := uu_grd h
    obtain ⟨cq38, cp38, cv38, cw38⟩ := uk.2.1 3 _ rfl
    refine uu_ldcwS cv38 dX11_execute_158 ?_
    obtain ⟨s39, e40, h⟩ := uu_ob h
    refine uu_cv (d1 := 5) (k := j35) (ci := 5) (T := TX5) (N := 3) (As := [.ref cq38]) (st := []) (st' := []) (xc_X5_line uk g37 cw38 e40) g37.is (by decide) rfl kX5_line lX11_238 sX5_line (by decide) (Nat.le_of_ble_eq_true rfl) dX11_execute_161 rfl ?_
    refine uu_goto (tgt := 178) dX11_execute_164 (by decide) ?_
    have hr := Option.some.inj h
    subst hr
    exact uu_vret rfl dX11_execute_178
  replace h := uu_neg c1_8 h
  have cx1 : (x2).toInt < 0 ∨ 8 < (x2).toInt := by
    refine Decidable.byContradiction fun q => ?_
    rcases (show (x2).toInt = 0 ∨ (x2).toInt = 1 ∨ (x2).toInt = 2 ∨ (x2).toInt = 3 ∨ (x2).toInt = 4 ∨ (x2).toInt = 5 ∨ (x2).toInt = 6 ∨ (x2).toInt = 7 ∨ (x2).toInt = 8 by omega) with q | q | q | q | q | q | q | q | q
    · exact c1_0 (sw_eq q (by decide))
    · exact c1_1 (sw_eq q (by decide))
    · exact c1_2 (sw_eq q (by decide))
    · exact c1_3 (sw_eq q (by decide))
    · exact c1_4 (sw_eq q (by decide))
    · exact c1_5 (sw_eq q (by decide))
    · exact c1_6 (sw_eq q (by decide))
    · exact c1_7 (sw_eq q (by decide))
    · exact c1_8 (sw_eq q (by decide))
  refine uu_tableOut (tgt := 167) dX11_execute_1 cx1 (by decide) ?_
  refine uu_aload_n dX11_execute_167 rfl (List.mem_of_getElem? (i := 0) rfl) ?_
  refine uu_geta (ci := 11) (N := 17) fX11_15 (by decide) so_0.is (by decide) (c := 2) (by decide) dX11_execute_168 ?_
  refine uu_iload_n dX11_execute_171 rfl (List.mem_of_getElem? (i := 1) rfl) ?_
  obtain ⟨j41, e42, h⟩ := uu_ob h
  refine uu_aald (t := 24) rfl (by decide) e42 dX11_execute_172 ?_
  obtain ⟨g43, h⟩ := uu_grd h
  obtain ⟨cq44, cp44, cv44, cw44⟩ := uk.2.1 0 _ rfl
  refine uu_ldcS cv44 dX11_execute_173 ?_
  obtain ⟨s45, e46, h⟩ := uu_ob h
  refine uu_cv (d1 := 6) (k := j41) (ci := 5) (T := TX5) (N := 3) (As := [.ref cq44]) (st := []) (st' := []) (xc_X5_refusal uk g43 cw44 e46) g43.is (by decide) rfl kX5_refusal lX11_126 sX5_refusal (by decide) (Nat.le_of_ble_eq_true rfl) dX11_execute_175 rfl ?_
  have hr := Option.some.inj h
  subst hr
  exact uu_vret rfl dX11_execute_178
def fb_X11_manage_40 (K40 : Int32 → Int32 → Nat → Int32 → uS → Option (uS × Int32)) (x1 : Int32) (x2 : Int32) (k3 : Nat) (x4 : Int32) (s : uS) : Option (uS × Int32) := if x2 ≤ x4 then (some (wI s 0 9 0, x4)) else (if (6000 : Int32) ≤ x4 then (some (wI s 0 9 0, x4)) else (if (s.I 0 16) = 0 then (some (wI s 0 9 0, x4)) else ((iget 21 s 1 x4).bind fun v4 => (fn_X8_take k3 (v4 &&& 255) s).bind fun r6 => if r6.2 = 1 then ((fn_X8_command k3 r6.1).bind fun v18 => (fn_X11_execute x1 v18 r6.1).bind fun s20 => (fn_X8_reset k3 s20).bind fun s22 => K40 x1 x2 k3 (x4 + 1) s22) else (if r6.2 = 2 then ((pgt 24 r6.1 2 x1).bind fun j10 => if uSo j10 5 then ((fn_X5_refusal j10 kW_0 r6.1).bind fun s14 => (fn_X8_reset k3 s14).bind fun s16 => K40 x1 x2 k3 (x4 + 1) s16) else none) else (K40 x1 x2 k3 (x4 + 1) r6.1)))))
set_option maxRecDepth 100000 in
set_option maxHeartbeats 4000000 in
theorem xb_X11_manage_40 {l : Launch} {D : va_G} {A : Nat → ClassId} {B : Nat} {Z : State → Heap → Prop} {vF : Value} (uk : uK B Z vF) (un : uX A B Z) {K40 : Int32 → Int32 → Nat → Int32 → uS → Option (uS × Int32)} (hK40 : ∀ (x1 : Int32) (x2 : Int32) (k3 : Nat) (x4 : Int32) (hk3 : uSo k3 8) (s : uS) (r : (uS × Int32)), K40 x1 x2 k3 x4 s = some r → GU l D A B Z mX11_manage 10 (r.1, some (.int r.2)) s 40 [(0, .ref (B + 0)), (1, .int x1), (2, .int x2), (3, .ref (B + k3)), (4, .int x4)] []) {x1 : Int32} {x2 : Int32} {k3 : Nat} {x4 : Int32} {s : uS} {r : (uS × Int32)} (hk3 : uSo k3 8) (h : fb_X11_manage_40 K40 x1 x2 k3 x4 s = some r) : GU l D A B Z mX11_manage 10 (r.1, some (.int r.2)) s 40 [(0, .ref (B + 0)), (1, .int x1), (2, .int x2), (3, .ref (B + k3)), (4, .int x4)] [] := by
  unfold fb_X11_manage_40 at h
  refine uu_iload dX11_manage_40 (List.mem_of_getElem? (i := 4) rfl) ?_
  refine uu_iload_n dX11_manage_42 rfl (List.mem_of_getElem? (i := 2) rfl) ?_
  refine uu_icmp_ge (tgt := 127) dX11_manage_43 (by decide) (fun c1 => ?_) (fun c1 => ?_)
  · replace h := uu_pos c1 h
    refine uu_aload_n dX11_manage_127 rfl (List.mem_of_getElem? (i := 0) rfl) ?_
    refine uu_iconst (v := 0) dX11_manage_128 (by decide) ?_
    refine uu_puti (ft := .int) (ci := 11) (N := 17) fX11_88 ptX11 (Or.inl rfl) (by decide) so_0.is (by decide) (by decide) (by decide +kernel) rfl rfl dX11_manage_129 ?_
    refine uu_iload dX11_manage_132 (List.mem_of_getElem? (i := 4) rfl) ?_
    have hr := Option.some.inj h
    subst hr
    exact uu_iret rfl dX11_manage_134
  · replace h := uu_neg c1 h
    refine uu_iload dX11_manage_46 (List.mem_of_getElem? (i := 4) rfl) ?_
    refine uu_sipush (v := 6000) dX11_manage_48 (by decide) ?_
    refine uu_icmp_ge (tgt := 127) dX11_manage_51 (by decide) (fun c2 => ?_) (fun c2 => ?_)
    · replace h := uu_pos c2 h
      refine uu_aload_n dX11_manage_127 rfl (List.mem_of_getElem? (i := 0) rfl) ?_
      refine uu_iconst (v := 0) dX11_manage_128 (by decide) ?_
      refine uu_puti (ft := .int) (ci := 11) (N := 17) fX11_88 ptX11 (Or.inl rfl) (by decide) so_0.is (by decide) (by decide) (by decide +kernel) rfl rfl dX11_manage_129 ?_
      refine uu_iload dX11_manage_132 (List.mem_of_getElem? (i := 4) rfl) ?_
      have hr := Option.some.inj h
      subst hr
      exact uu_iret rfl dX11_manage_134
    · replace h := uu_neg c2 h
      refine uu_aload_n dX11_manage_54 rfl (List.mem_of_getElem? (i := 0) rfl) ?_
      refine uu_geti (ci := 11) (N := 17) fX11_44 (by decide) so_0.is (by decide) (by decide) dX11_manage_55 ?_
      refine uu_if_eq (tgt := 127) dX11_manage_58 (by decide) (fun c3 => ?_) (fun c3 => ?_)
      · replace h := uu_pos c3 h
        refine uu_aload_n dX11_manage_127 rfl (List.mem_of_getElem? (i := 0) rfl) ?_
        refine uu_iconst (v := 0) dX11_manage_128 (by decide) ?_
        refine uu_puti (ft := .int) (ci := 11) (N := 17) fX11_88 ptX11 (Or.inl rfl) (by decide) so_0.is (by decide) (by decide) (by decide +kernel) rfl rfl dX11_manage_129 ?_
        refine uu_iload dX11_manage_132 (List.mem_of_getElem? (i := 4) rfl) ?_
        have hr := Option.some.inj h
        subst hr
        exact uu_iret rfl dX11_manage_134
      · replace h := uu_neg c3 h
        refine uu_aload_n dX11_manage_61 rfl (List.mem_of_getElem? (i := 3) rfl) ?_
        refine uu_aload_n dX11_manage_62 rfl (List.mem_of_getElem? (i := 0) rfl) ?_
        refine uu_geta (ci := 11) (N := 17) fX11_9 (by decide) so_0.is (by decide) (c := 1) (by decide) dX11_manage_63 ?_
        refine uu_iload dX11_manage_66 (List.mem_of_getElem? (i := 4) rfl) ?_
        obtain ⟨v4, e5, h⟩ := uu_ob h
        refine uu_bald e5 dX11_manage_68 ?_
        refine uu_sipush (v := 255) dX11_manage_69 (by decide) ?_
        refine uu_iand dX11_manage_72 ?_
        obtain ⟨r6, e7, h⟩ := uu_ob h
        refine uu_cv (d1 := 5) (k := k3) (ci := 8) (T := TX8) (N := 8) (As := [.int (v4 &&& 255)]) (st := []) (st' := [.int r6.2]) (xc_X8_take uk hk3 e7) hk3.is (by decide) rfl kX8_take lX11_112 sX8_take (by decide) (Nat.le_of_ble_eq_true rfl) dX11_manage_73 rfl ?_
        refine uu_istore dX11_manage_76 (by decide) rfl ?_
        refine uu_iinc (v := x4 + 1) dX11_manage_78 (k := 5) rfl rfl (by decide) rfl ?_
        refine uu_iload dX11_manage_81 (List.mem_of_getElem? (i := 1) rfl) ?_
        refine uu_iconst (v := 1) dX11_manage_83 (by decide) ?_
        refine uu_icmp_ne (tgt := 103) dX11_manage_84 (by decide) (fun c8 => ?_) (fun c8 => ?_)
        · replace h := uu_neg c8 h
          refine uu_iload dX11_manage_103 (List.mem_of_getElem? (i := 1) rfl) ?_
          refine uu_iconst (v := 2) dX11_manage_105 (by decide) ?_
          refine uu_icmp_ne (tgt := 124) dX11_manage_106 (by decide) (fun c9 => ?_) (fun c9 => ?_)
          · replace h := uu_neg c9 h
            refine uu_goto (tgt := 40) dX11_manage_124 (by decide) ?_
            refine uu_lv [2, 3, 4, 5, 0] (lv' := [(0, .ref (B + 0)), (1, .int x1), (2, .int x2), (3, .ref (B + k3)), (4, .int (x4 + 1))]) rfl ?_
            exact hK40 x1 x2 k3 (x4 + 1) hk3 _ _ h
          · replace h := uu_pos c9 h
            refine uu_aload_n dX11_manage_109 rfl (List.mem_of_getElem? (i := 2) rfl) ?_
            refine uu_geta (ci := 11) (N := 17) fX11_15 (by decide) so_0.is (by decide) (c := 2) (by decide) dX11_manage_110 ?_
            refine uu_iload_n dX11_manage_113 rfl (List.mem_of_getElem? (i := 3) rfl) ?_
            obtain ⟨j10, e11, h⟩ := uu_ob h
            refine uu_aald (t := 24) rfl (by decide) e11 dX11_manage_114 ?_
            obtain ⟨g12, h⟩ := uu_grd h
            obtain ⟨cq13, cp13, cv13, cw13⟩ := uk.2.1 0 _ rfl
            refine uu_ldcS cv13 dX11_manage_115 ?_
            obtain ⟨s14, e15, h⟩ := uu_ob h
            refine uu_cv (d1 := 6) (k := j10) (ci := 5) (T := TX5) (N := 3) (As := [.ref cq13]) (st := []) (st' := []) (xc_X5_refusal uk g12 cw13 e15) g12.is (by decide) rfl kX5_refusal lX11_126 sX5_refusal (by decide) (Nat.le_of_ble_eq_true rfl) dX11_manage_117 rfl ?_
            refine uu_aload_n dX11_manage_120 rfl (List.mem_of_getElem? (i := 5) rfl) ?_
            obtain ⟨s16, e17, h⟩ := uu_ob h
            refine uu_cv (d1 := 1) (k := k3) (ci := 8) (T := TX8) (N := 8) (As := []) (st := []) (st' := []) (xc_X8_reset uk hk3 e17) hk3.is (by decide) rfl kX8_reset lX11_121 sX8_reset (by decide) (Nat.le_of_ble_eq_true rfl) dX11_manage_121 rfl ?_
            refine uu_goto (tgt := 40) dX11_manage_124 (by decide) ?_
            refine uu_lv [2, 3, 4, 5, 0] (lv' := [(0, .ref (B + 0)), (1, .int x1), (2, .int x2), (3, .ref (B + k3)), (4, .int (x4 + 1))]) rfl ?_
            exact hK40 x1 x2 k3 (x4 + 1) hk3 _ _ h
        · replace h := uu_pos c8 h
          refine uu_aload_n dX11_manage_87 rfl (List.mem_of_getElem? (i := 2) rfl) ?_
          refine uu_iload_n dX11_manage_88 rfl (List.mem_of_getElem? (i := 3) rfl) ?_
          refine uu_aload_n dX11_manage_89 rfl (List.mem_of_getElem? (i := 5) rfl) ?_
          obtain ⟨v18, e19, h⟩ := uu_ob h
          refine uu_cv (d1 := 5) (k := k3) (ci := 8) (T := TX8) (N := 8) (As := []) (st := [.int x1, .ref (B + 0)]) (st' := [.int v18, .int x1, .ref (B + 0)]) (xc_X8_command uk hk3 e19) hk3.is (by decide) rfl kX8_command lX11_113 sX8_command (by decide) (Nat.le_of_ble_eq_true rfl) dX11_manage_90 rfl ?_
          obtain ⟨s20, e21, h⟩ := uu_ob h
          refine uu_cv (d1 := 9) (k := 0) (ci := 11) (T := TX11) (N := 17) (As := [.int x1, .int v18]) (st := []) (st' := []) (xc_X11_execute uk un  e21) so_0.is (by decide) rfl kX11_execute lX11_117 sX11_execute (by decide) (Nat.le_of_ble_eq_true rfl) dX11_manage_93 rfl ?_
          refine uu_aload_n dX11_manage_96 rfl (List.mem_of_getElem? (i := 5) rfl) ?_
          obtain ⟨s22, e23, h⟩ := uu_ob h
          refine uu_cv (d1 := 1) (k := k3) (ci := 8) (T := TX8) (N := 8) (As := []) (st := []) (st' := []) (xc_X8_reset uk hk3 e23) hk3.is (by decide) rfl kX8_reset lX11_121 sX8_reset (by decide) (Nat.le_of_ble_eq_true rfl) dX11_manage_97 rfl ?_
          refine uu_goto (tgt := 124) dX11_manage_100 (by decide) ?_
          refine uu_goto (tgt := 40) dX11_manage_124 (by decide) ?_
          refine uu_lv [2, 3, 4, 5, 0] (lv' := [(0, .ref (B + 0)), (1, .int x1), (2, .int x2), (3, .ref (B + k3)), (4, .int (x4 + 1))]) rfl ?_
          exact hK40 x1 x2 k3 (x4 + 1) hk3 _ _ h
def fn_X11_manage_40  : Nat → Int32 → Int32 → Nat → Int32 → uS → Option (uS × Int32)
  | 0 => fun _ _ _ _ _ => none
  | n + 1 => fb_X11_manage_40 (fn_X11_manage_40  n)
set_option maxRecDepth 100000 in
set_option maxHeartbeats 4000000 in
theorem xn_X11_manage_40 {l : Launch} {D : va_G} {A : Nat → ClassId} {B : Nat} {Z : State → Heap → Prop} {vF : Value} (uk : uK B Z vF) (un : uX A B Z)   : ∀ (n : Nat) (x1 : Int32) (x2 : Int32) (k3 : Nat) (x4 : Int32) (hk3 : uSo k3 8) (s : uS) (r : (uS × Int32)), fn_X11_manage_40  n x1 x2 k3 x4 s = some r → GU l D A B Z mX11_manage 10 (r.1, some (.int r.2)) s 40 [(0, .ref (B + 0)), (1, .int x1), (2, .int x2), (3, .ref (B + k3)), (4, .int x4)] [] := by
  intro n
  induction n with
  | zero => intro x1 x2 k3 x4 hk3 s r h
            cases h
  | succ n ih => intro x1 x2 k3 x4 hk3 s r h
                 exact xb_X11_manage_40 uk un ih hk3 h
def fn_X11_manage (x1 : Int32) (x2 : Int32) (s : uS) : Option (uS × Int32) := if (s.I 0 16) = 0 then (some (s, (-1 : Int32))) else (if x1 < 0 then (some (s, (-1 : Int32))) else (if (4 : Int32) ≤ x1 then (some (s, (-1 : Int32))) else (if x2 < 0 then (some (s, (-1 : Int32))) else (if x2 ≤ (s.I 0 9) then ((pgt 25 s 3 x1).bind fun j6 => if uSo j6 8 then (fn_X11_manage_40 uFu x1 x2 j6 0 s) else none) else (some (s, (-1 : Int32)))))))
set_option maxRecDepth 100000 in
set_option maxHeartbeats 4000000 in
theorem xc_X11_manage {l : Launch} {D : va_G} {A : Nat → ClassId} {B : Nat} {Z : State → Heap → Prop} {vF : Value} (uk : uK B Z vF) (un : uX A B Z) {x1 : Int32} {x2 : Int32} {s : uS} {r : (uS × Int32)}  (h : fn_X11_manage x1 x2 s = some r) : CU l D A B Z 10 mX11_manage s [.ref (B + 0), .int x1, .int x2] (r.1, some (.int r.2)) := by
  unfold fn_X11_manage at h
  refine cu_of rfl uk.1.1 (Nat.le_of_ble_eq_true rfl) ?_
  show GU _ _ _ _ _ _ _ _ _ 0 [(0, .ref (B + 0)), (1, .int x1), (2, .int x2)] []
  refine uu_aload_n dX11_manage_0 rfl (List.mem_of_getElem? (i := 0) rfl) ?_
  refine uu_geti (ci := 11) (N := 17) fX11_44 (by decide) so_0.is (by decide) (by decide) dX11_manage_1 ?_
  refine uu_if_eq (tgt := 28) dX11_manage_4 (by decide) (fun c1 => ?_) (fun c1 => ?_)
  · replace h := uu_pos c1 h
    refine uu_iconst (v := -1) dX11_manage_28 (by decide) ?_
    have hr := Option.some.inj h
    subst hr
    exact uu_iret rfl dX11_manage_29
  · replace h := uu_neg c1 h
    refine uu_iload_n dX11_manage_7 rfl (List.mem_of_getElem? (i := 1) rfl) ?_
    refine uu_if_lt (tgt := 28) dX11_manage_8 (by decide) (fun c2 => ?_) (fun c2 => ?_)
    · replace h := uu_pos c2 h
      refine uu_iconst (v := -1) dX11_manage_28 (by decide) ?_
      have hr := Option.some.inj h
      subst hr
      exact uu_iret rfl dX11_manage_29
    · replace h := uu_neg c2 h
      refine uu_iload_n dX11_manage_11 rfl (List.mem_of_getElem? (i := 1) rfl) ?_
      refine uu_iconst (v := 4) dX11_manage_12 (by decide) ?_
      refine uu_icmp_ge (tgt := 28) dX11_manage_13 (by decide) (fun c3 => ?_) (fun c3 => ?_)
      · replace h := uu_pos c3 h
        refine uu_iconst (v := -1) dX11_manage_28 (by decide) ?_
        have hr := Option.some.inj h
        subst hr
        exact uu_iret rfl dX11_manage_29
      · replace h := uu_neg c3 h
        refine uu_iload_n dX11_manage_16 rfl (List.mem_of_getElem? (i := 2) rfl) ?_
        refine uu_if_lt (tgt := 28) dX11_manage_17 (by decide) (fun c4 => ?_) (fun c4 => ?_)
        · replace h := uu_pos c4 h
          refine uu_iconst (v := -1) dX11_manage_28 (by decide) ?_
          have hr := Option.some.inj h
          subst hr
          exact uu_iret rfl dX11_manage_29
        · replace h := uu_neg c4 h
          refine uu_iload_n dX11_manage_20 rfl (List.mem_of_getElem? (i := 2) rfl) ?_
          refine uu_aload_n dX11_manage_21 rfl (List.mem_of_getElem? (i := 0) rfl) ?_
          refine uu_geti (ci := 11) (N := 17) fX11_88 (by decide) so_0.is (by decide) (by decide) dX11_manage_22 ?_
          refine uu_icmp_le (tgt := 30) dX11_manage_25 (by decide) (fun c5 => ?_) (fun c5 => ?_)
          · replace h := uu_pos c5 h
            refine uu_aload_n dX11_manage_30 rfl (List.mem_of_getElem? (i := 0) rfl) ?_
            refine uu_geta (ci := 11) (N := 17) fX11_21 (by decide) so_0.is (by decide) (c := 3) (by decide) dX11_manage_31 ?_
            refine uu_iload_n dX11_manage_34 rfl (List.mem_of_getElem? (i := 1) rfl) ?_
            obtain ⟨j6, e7, h⟩ := uu_ob h
            refine uu_aald (t := 25) rfl (by decide) e7 dX11_manage_35 ?_
            obtain ⟨g8, h⟩ := uu_grd h
            refine uu_astore_n dX11_manage_36 rfl (by decide) rfl ?_
            refine uu_iconst (v := 0) dX11_manage_37 (by decide) ?_
            refine uu_istore dX11_manage_38 (by decide) rfl ?_
            refine uu_lv [2, 3, 4, 1, 0] (lv' := [(0, .ref (B + 0)), (1, .int x1), (2, .int x2), (3, .ref (B + j6)), (4, .int 0)]) rfl ?_
            exact xn_X11_manage_40 uk un  _ _ _ _ _ g8 _ _ h
          · replace h := uu_neg c5 h
            refine uu_iconst (v := -1) dX11_manage_28 (by decide) ?_
            have hr := Option.some.inj h
            subst hr
            exact uu_iret rfl dX11_manage_29
