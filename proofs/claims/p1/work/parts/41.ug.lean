abbrev mX7_boxOf : hM := (yX7_boxOf, cX7_boxOf, 4, (some (.int)))
theorem dX7_boxOf_80 : decode cX7_boxOf 80 = .ok (.iload_n 3, 1) := by decide +kernel
theorem dX7_boxOf_81 : decode cX7_boxOf 81 = .ok (.aload_n 0, 1) := by decide +kernel
theorem dX7_boxOf_82 : decode cX7_boxOf 82 = .ok (.getfield 62, 3) := by decide +kernel
theorem dX7_boxOf_85 : decode cX7_boxOf 85 = .ok (.if_icmp .ge 38, 3) := by decide +kernel
theorem dX7_boxOf_123 : decode cX7_boxOf 123 = .ok (.aload_n 0, 1) := by decide +kernel
theorem dX7_boxOf_124 : decode cX7_boxOf 124 = .ok (.getfield 41, 3) := by decide +kernel
theorem fX7_203 : h_fl RX7 203 10 2 RX10 TX10 6 := ⟨rfl, by decide, inX10, h_t2 136 rfl rfl⟩
theorem dX7_boxOf_127 : decode cX7_boxOf 127 = .ok (.getfield 203, 3) := by decide +kernel
theorem fX7_206 : h_fl RX7 206 9 3 RX9 TX9 6 := ⟨rfl, by decide, inX9, h_t1 83 rfl rfl⟩
theorem dX7_boxOf_130 : decode cX7_boxOf 130 = .ok (.getfield 206, 3) := by decide +kernel
theorem dX7_boxOf_133 : decode cX7_boxOf 133 = .ok (.aload_n 0, 1) := by decide +kernel
theorem dX7_boxOf_134 : decode cX7_boxOf 134 = .ok (.getfield 62, 3) := by decide +kernel
theorem dX7_boxOf_137 : decode cX7_boxOf 137 = .ok (.iadd, 1) := by decide +kernel
theorem dX7_boxOf_138 : decode cX7_boxOf 138 = .ok (.bipush 6, 2) := by decide +kernel
theorem dX7_boxOf_140 : decode cX7_boxOf 140 = .ok (.if_icmp .lt 9, 3) := by decide +kernel
theorem dX7_boxOf_149 : decode cX7_boxOf 149 = .ok (.aload_n 0, 1) := by decide +kernel
theorem dX7_boxOf_150 : decode cX7_boxOf 150 = .ok (.getfield 18, 3) := by decide +kernel
theorem dX7_boxOf_153 : decode cX7_boxOf 153 = .ok (.aload_n 0, 1) := by decide +kernel
theorem dX7_boxOf_154 : decode cX7_boxOf 154 = .ok (.getfield 62, 3) := by decide +kernel
theorem dX7_boxOf_157 : decode cX7_boxOf 157 = .ok (.iload_n 1, 1) := by decide +kernel
theorem dX7_boxOf_158 : decode cX7_boxOf 158 = .ok (.iastore, 1) := by decide +kernel
theorem dX7_boxOf_159 : decode cX7_boxOf 159 = .ok (.aload_n 0, 1) := by decide +kernel
theorem dX7_boxOf_160 : decode cX7_boxOf 160 = .ok (.dup, 1) := by decide +kernel
theorem dX7_boxOf_161 : decode cX7_boxOf 161 = .ok (.getfield 62, 3) := by decide +kernel
theorem dX7_boxOf_164 : decode cX7_boxOf 164 = .ok (.iconst 1, 1) := by decide +kernel
theorem dX7_boxOf_165 : decode cX7_boxOf 165 = .ok (.iadd, 1) := by decide +kernel
theorem dX7_boxOf_166 : decode cX7_boxOf 166 = .ok (.putfield 62, 3) := by decide +kernel
theorem dX7_boxOf_169 : decode cX7_boxOf 169 = .ok (.aload_n 0, 1) := by decide +kernel
theorem dX7_boxOf_170 : decode cX7_boxOf 170 = .ok (.getfield 41, 3) := by decide +kernel
theorem dX7_boxOf_173 : decode cX7_boxOf 173 = .ok (.getfield 203, 3) := by decide +kernel
theorem dX7_boxOf_176 : decode cX7_boxOf 176 = .ok (.getfield 206, 3) := by decide +kernel
theorem dX7_boxOf_179 : decode cX7_boxOf 179 = .ok (.aload_n 0, 1) := by decide +kernel
theorem dX7_boxOf_180 : decode cX7_boxOf 180 = .ok (.getfield 62, 3) := by decide +kernel
theorem dX7_boxOf_183 : decode cX7_boxOf 183 = .ok (.iadd, 1) := by decide +kernel
theorem dX7_boxOf_184 : decode cX7_boxOf 184 = .ok (.iconst 1, 1) := by decide +kernel
theorem dX7_boxOf_185 : decode cX7_boxOf 185 = .ok (.isub, 1) := by decide +kernel
theorem dX7_boxOf_186 : decode cX7_boxOf 186 = .ok (.ireturn, 1) := by decide +kernel
theorem dX7_boxOf_143 : decode cX7_boxOf 143 = .ok (.aload_n 0, 1) := by decide +kernel
theorem dX7_boxOf_144 : decode cX7_boxOf 144 = .ok (.invokevirtual 165, 3) := by decide +kernel
theorem dX7_boxOf_147 : decode cX7_boxOf 147 = .ok (.iconst (-1), 1) := by decide +kernel
theorem dX7_boxOf_148 : decode cX7_boxOf 148 = .ok (.ireturn, 1) := by decide +kernel
theorem dX7_boxOf_88 : decode cX7_boxOf 88 = .ok (.aload_n 2, 1) := by decide +kernel
theorem dX7_boxOf_89 : decode cX7_boxOf 89 = .ok (.aload_n 0, 1) := by decide +kernel
theorem dX7_boxOf_90 : decode cX7_boxOf 90 = .ok (.getfield 18, 3) := by decide +kernel
theorem dX7_boxOf_93 : decode cX7_boxOf 93 = .ok (.iload_n 3, 1) := by decide +kernel
theorem dX7_boxOf_94 : decode cX7_boxOf 94 = .ok (.iaload, 1) := by decide +kernel
theorem dX7_boxOf_95 : decode cX7_boxOf 95 = .ok (.aload_n 2, 1) := by decide +kernel
theorem dX7_boxOf_96 : decode cX7_boxOf 96 = .ok (.iload_n 1, 1) := by decide +kernel
theorem dX7_boxOf_97 : decode cX7_boxOf 97 = .ok (.iconst 0, 1) := by decide +kernel
theorem lX7_209 : Cond.methodLink RX7 209 mX9_isSameText.1 ∈ lw_g := h_t6 35 rfl rfl
theorem dX7_boxOf_98 : decode cX7_boxOf 98 = .ok (.invokevirtual 209, 3) := by decide +kernel
theorem dX7_boxOf_101 : decode cX7_boxOf 101 = .ok (.ifCond .eq 16, 3) := by decide +kernel
theorem dX7_boxOf_117 : decode cX7_boxOf 117 = .ok (.iinc 3 1, 3) := by decide +kernel
theorem dX7_boxOf_120 : decode cX7_boxOf 120 = .ok (.goto (-40), 3) := by decide +kernel
theorem dX7_boxOf_104 : decode cX7_boxOf 104 = .ok (.aload_n 0, 1) := by decide +kernel
theorem dX7_boxOf_105 : decode cX7_boxOf 105 = .ok (.getfield 41, 3) := by decide +kernel
theorem dX7_boxOf_108 : decode cX7_boxOf 108 = .ok (.getfield 203, 3) := by decide +kernel
theorem dX7_boxOf_111 : decode cX7_boxOf 111 = .ok (.getfield 206, 3) := by decide +kernel
theorem dX7_boxOf_114 : decode cX7_boxOf 114 = .ok (.iload_n 3, 1) := by decide +kernel
theorem dX7_boxOf_115 : decode cX7_boxOf 115 = .ok (.iadd, 1) := by decide +kernel
theorem dX7_boxOf_116 : decode cX7_boxOf 116 = .ok (.ireturn, 1) := by decide +kernel
theorem dX7_boxOf_39 : decode cX7_boxOf 39 = .ok (.iload_n 3, 1) := by decide +kernel
theorem dX7_boxOf_40 : decode cX7_boxOf 40 = .ok (.aload_n 0, 1) := by decide +kernel
theorem dX7_boxOf_41 : decode cX7_boxOf 41 = .ok (.getfield 41, 3) := by decide +kernel
theorem dX7_boxOf_44 : decode cX7_boxOf 44 = .ok (.getfield 203, 3) := by decide +kernel
theorem dX7_boxOf_47 : decode cX7_boxOf 47 = .ok (.getfield 206, 3) := by decide +kernel
theorem dX7_boxOf_50 : decode cX7_boxOf 50 = .ok (.if_icmp .ge 28, 3) := by decide +kernel
theorem dX7_boxOf_78 : decode cX7_boxOf 78 = .ok (.iconst 0, 1) := by decide +kernel
theorem dX7_boxOf_79 : decode cX7_boxOf 79 = .ok (.istore_n 3, 1) := by decide +kernel
theorem dX7_boxOf_53 : decode cX7_boxOf 53 = .ok (.aload_n 0, 1) := by decide +kernel
theorem dX7_boxOf_54 : decode cX7_boxOf 54 = .ok (.getfield 41, 3) := by decide +kernel
theorem dX7_boxOf_57 : decode cX7_boxOf 57 = .ok (.getfield 203, 3) := by decide +kernel
theorem dX7_boxOf_60 : decode cX7_boxOf 60 = .ok (.iload_n 3, 1) := by decide +kernel
theorem dX7_boxOf_61 : decode cX7_boxOf 61 = .ok (.aload_n 2, 1) := by decide +kernel
theorem dX7_boxOf_62 : decode cX7_boxOf 62 = .ok (.iload_n 1, 1) := by decide +kernel
theorem dX7_boxOf_63 : decode cX7_boxOf 63 = .ok (.iconst 0, 1) := by decide +kernel
theorem dX7_boxOf_64 : decode cX7_boxOf 64 = .ok (.invokevirtual 209, 3) := by decide +kernel
theorem dX7_boxOf_67 : decode cX7_boxOf 67 = .ok (.ifCond .eq 5, 3) := by decide +kernel
theorem dX7_boxOf_72 : decode cX7_boxOf 72 = .ok (.iinc 3 1, 3) := by decide +kernel
theorem dX7_boxOf_75 : decode cX7_boxOf 75 = .ok (.goto (-36), 3) := by decide +kernel
theorem dX7_boxOf_70 : decode cX7_boxOf 70 = .ok (.iload_n 3, 1) := by decide +kernel
theorem dX7_boxOf_71 : decode cX7_boxOf 71 = .ok (.ireturn, 1) := by decide +kernel
theorem dX7_boxOf_0 : decode cX7_boxOf 0 = .ok (.aload_n 0, 1) := by decide +kernel
theorem dX7_boxOf_1 : decode cX7_boxOf 1 = .ok (.getfield 33, 3) := by decide +kernel
theorem fX7_178 : h_fl RX7 178 4 0 RX4 TX4 9 := ⟨rfl, by decide, inX4, h_t1 224 rfl rfl⟩
theorem dX7_boxOf_4 : decode cX7_boxOf 4 = .ok (.getfield 178, 3) := by decide +kernel
theorem fX7_182 : h_fl RX7 182 2 0 RX2 TX2 9 := ⟨rfl, by decide, inX2, h_t1 113 rfl rfl⟩
theorem dX7_boxOf_7 : decode cX7_boxOf 7 = .ok (.getfield 182, 3) := by decide +kernel
theorem dX7_boxOf_10 : decode cX7_boxOf 10 = .ok (.astore_n 2, 1) := by decide +kernel
theorem dX7_boxOf_11 : decode cX7_boxOf 11 = .ok (.ldc 187, 2) := by decide +kernel
theorem dX7_boxOf_13 : decode cX7_boxOf 13 = .ok (.aload_n 2, 1) := by decide +kernel
theorem fX7_189 : h_fl RX7 189 9 0 RX9 TX9 6 := ⟨rfl, by decide, inX9, h_t1 60 rfl rfl⟩
theorem dX7_boxOf_14 : decode cX7_boxOf 14 = .ok (.getfield 189, 3) := by decide +kernel
theorem dX7_boxOf_17 : decode cX7_boxOf 17 = .ok (.aload_n 2, 1) := by decide +kernel
theorem fX7_193 : h_fl RX7 193 9 1 RX9 TX9 6 := ⟨rfl, by decide, inX9, h_t1 68 rfl rfl⟩
theorem dX7_boxOf_18 : decode cX7_boxOf 18 = .ok (.getfield 193, 3) := by decide +kernel
theorem dX7_boxOf_21 : decode cX7_boxOf 21 = .ok (.iload_n 1, 1) := by decide +kernel
theorem dX7_boxOf_22 : decode cX7_boxOf 22 = .ok (.iaload, 1) := by decide +kernel
theorem dX7_boxOf_23 : decode cX7_boxOf 23 = .ok (.aload_n 2, 1) := by decide +kernel
theorem fX7_196 : h_fl RX7 196 9 2 RX9 TX9 6 := ⟨rfl, by decide, inX9, h_t1 76 rfl rfl⟩
theorem dX7_boxOf_24 : decode cX7_boxOf 24 = .ok (.getfield 196, 3) := by decide +kernel
theorem dX7_boxOf_27 : decode cX7_boxOf 27 = .ok (.iload_n 1, 1) := by decide +kernel
theorem dX7_boxOf_28 : decode cX7_boxOf 28 = .ok (.iaload, 1) := by decide +kernel
theorem lX7_199 : Cond.methodLink RX7 199 mX9_place.1 ∈ lw_g := h_t6 34 rfl rfl
theorem dX7_boxOf_29 : decode cX7_boxOf 29 = .ok (.invokestatic 199, 3) := by decide +kernel
theorem dX7_boxOf_32 : decode cX7_boxOf 32 = .ok (.ifCond .ne 5, 3) := by decide +kernel
theorem dX7_boxOf_37 : decode cX7_boxOf 37 = .ok (.iconst 0, 1) := by decide +kernel
theorem dX7_boxOf_38 : decode cX7_boxOf 38 = .ok (.istore_n 3, 1) := by decide +kernel
theorem dX7_boxOf_35 : decode cX7_boxOf 35 = .ok (.iconst 0, 1) := by decide +kernel
theorem dX7_boxOf_36 : decode cX7_boxOf 36 = .ok (.ireturn, 1) := by decide +kernel
def fb_X7_boxOf_80 (K80 : Int32 → Int32 → uS → Option (uS × Int32)) (x1 : Int32) (x3 : Int32) (s : uS) : Option (uS × Int32) := if (s.I 1070 6) ≤ x3 then ((s.R 1070 11).bind fun j2 => if uSo j2 10 then (if ((s.I (j2 + 3) 3) + (s.I 1070 6)) < 6 then ((iput 20 s 1073 (s.I 1070 6) x1).bind fun s6 => ((wI s6 1070 6 ((s6.I 1070 6) + 1)).R 1070 11).bind fun j8 => if uSo j8 10 then (some (wI s6 1070 6 ((s6.I 1070 6) + 1), (((wI s6 1070 6 ((s6.I 1070 6) + 1)).I (j8 + 3) 3) + ((wI s6 1070 6 ((s6.I 1070 6) + 1)).I 1070 6)) - 1)) else none) else ((fn_X7_fail s).bind fun s11 => some (s11, (-1 : Int32)))) else none) else ((iget 20 s 1073 x3).bind fun v13 => (fn_X9_isSameText 8 v13 8 x1 false s).bind fun v15 => if v15 = true then ((s.R 1070 11).bind fun j18 => if uSo j18 10 then (some (s, (s.I (j18 + 3) 3) + x3)) else none) else (K80 x1 (x3 + 1) s))
set_option maxRecDepth 100000 in
set_option maxHeartbeats 4000000 in
theorem xb_X7_boxOf_80 {l : Launch} {D : va_G} {A : Nat → ClassId} {B : Nat} {Z : State → Heap → Prop} {vF : Value} (uk : uK B Z vF) {K80 : Int32 → Int32 → uS → Option (uS × Int32)} (hK80 : ∀ (x1 : Int32) (x3 : Int32)  (s : uS) (r : (uS × Int32)), K80 x1 x3 s = some r → GU l D A B Z mX7_boxOf 5 (r.1, some (.int r.2)) s 80 [(0, .ref (B + 1070)), (1, .int x1), (2, .ref (B + 8)), (3, .int x3)] []) {x1 : Int32} {x3 : Int32} {s : uS} {r : (uS × Int32)}  (h : fb_X7_boxOf_80 K80 x1 x3 s = some r) : GU l D A B Z mX7_boxOf 5 (r.1, some (.int r.2)) s 80 [(0, .ref (B + 1070)), (1, .int x1), (2, .ref (B + 8)), (3, .int x3)] [] := by
  unfold fb_X7_boxOf_80 at h
  refine uu_iload_n dX7_boxOf_80 rfl (List.mem_of_getElem? (i := 3) rfl) ?_
  refine uu_aload_n dX7_boxOf_81 rfl (List.mem_of_getElem? (i := 0) rfl) ?_
  refine uu_geti (ci := 7) (N := 20) fX7_62 (by decide) so_1070.is (by decide) (by decide) dX7_boxOf_82 ?_
  refine uu_icmp_ge (tgt := 123) dX7_boxOf_85 (by decide) (fun c1 => ?_) (fun c1 => ?_)
  · replace h := uu_pos c1 h
    refine uu_aload_n dX7_boxOf_123 rfl (List.mem_of_getElem? (i := 0) rfl) ?_
    obtain ⟨j2, e3, h⟩ := uu_ob h
    refine uu_getr (ci := 7) (N := 20) fX7_41 (by decide) so_1070.is (by decide) (by decide) e3 dX7_boxOf_124 ?_
    obtain ⟨g4, h⟩ := uu_grd h
    refine uu_getc (ci := 10) (N := 6) fX7_203 (by decide) g4.is (by decide) (c := 3) (by decide) (k2 := j2 + 3) rfl dX7_boxOf_127 ?_
    refine uu_geti (ci := 9) (N := 6) fX7_206 (by decide) (so_boxes g4).is (by decide) (by decide) dX7_boxOf_130 ?_
    refine uu_aload_n dX7_boxOf_133 rfl (List.mem_of_getElem? (i := 0) rfl) ?_
    refine uu_geti (ci := 7) (N := 20) fX7_62 (by decide) so_1070.is (by decide) (by decide) dX7_boxOf_134 ?_
    refine uu_iadd dX7_boxOf_137 ?_
    refine uu_bipush (v := 6) dX7_boxOf_138 (by decide) ?_
    refine uu_icmp_lt (tgt := 149) dX7_boxOf_140 (by decide) (fun c5 => ?_) (fun c5 => ?_)
    · replace h := uu_pos c5 h
      refine uu_aload_n dX7_boxOf_149 rfl (List.mem_of_getElem? (i := 0) rfl) ?_
      refine uu_geta (ci := 7) (N := 20) fX7_18 (by decide) so_1070.is (by decide) (c := 1073) (by decide) dX7_boxOf_150 ?_
      refine uu_aload_n dX7_boxOf_153 rfl (List.mem_of_getElem? (i := 0) rfl) ?_
      refine uu_geti (ci := 7) (N := 20) fX7_62 (by decide) so_1070.is (by decide) (by decide) dX7_boxOf_154 ?_
      refine uu_iload_n dX7_boxOf_157 rfl (List.mem_of_getElem? (i := 1) rfl) ?_
      obtain ⟨s6, e7, h⟩ := uu_ob h
      refine uu_iast e7 dX7_boxOf_158 ?_
      refine uu_aload_n dX7_boxOf_159 rfl (List.mem_of_getElem? (i := 0) rfl) ?_
      refine uu_dup dX7_boxOf_160 rfl ?_
      refine uu_geti (ci := 7) (N := 20) fX7_62 (by decide) so_1070.is (by decide) (by decide) dX7_boxOf_161 ?_
      refine uu_iconst (v := 1) dX7_boxOf_164 (by decide) ?_
      refine uu_iadd dX7_boxOf_165 ?_
      refine uu_puti (ft := .int) (ci := 7) (N := 20) fX7_62 ptX7 (Or.inl rfl) (by decide) so_1070.is (by decide) (by decide) (by decide +kernel) rfl rfl dX7_boxOf_166 ?_
      refine uu_aload_n dX7_boxOf_169 rfl (List.mem_of_getElem? (i := 0) rfl) ?_
      obtain ⟨j8, e9, h⟩ := uu_ob h
      refine uu_getr (ci := 7) (N := 20) fX7_41 (by decide) so_1070.is (by decide) (by decide) e9 dX7_boxOf_170 ?_
      obtain ⟨g10, h⟩ := uu_grd h
      refine uu_getc (ci := 10) (N := 6) fX7_203 (by decide) g10.is (by decide) (c := 3) (by decide) (k2 := j8 + 3) rfl dX7_boxOf_173 ?_
      refine uu_geti (ci := 9) (N := 6) fX7_206 (by decide) (so_boxes g10).is (by decide) (by decide) dX7_boxOf_176 ?_
      refine uu_aload_n dX7_boxOf_179 rfl (List.mem_of_getElem? (i := 0) rfl) ?_
      refine uu_geti (ci := 7) (N := 20) fX7_62 (by decide) so_1070.is (by decide) (by decide) dX7_boxOf_180 ?_
      refine uu_iadd dX7_boxOf_183 ?_
      refine uu_iconst (v := 1) dX7_boxOf_184 (by decide) ?_
      refine uu_isub dX7_boxOf_185 ?_
      have hr := Option.some.inj h
      subst hr
      exact uu_iret rfl dX7_boxOf_186
    · replace h := uu_neg c5 h
      refine uu_aload_n dX7_boxOf_143 rfl (List.mem_of_getElem? (i := 0) rfl) ?_
      obtain ⟨s11, e12, h⟩ := uu_ob h
      refine uu_cv (d1 := 0) (k := 1070) (ci := 7) (T := TX7) (N := 20) (As := []) (st := []) (st' := []) (xc_X7_fail uk  e12) so_1070.is (by decide) rfl kX7_fail lX7_165 sX7_fail (by decide) (Nat.le_of_ble_eq_true rfl) dX7_boxOf_144 rfl ?_
      refine uu_iconst (v := -1) dX7_boxOf_147 (by decide) ?_
      have hr := Option.some.inj h
      subst hr
      exact uu_iret rfl dX7_boxOf_148
  · replace h := uu_neg c1 h
    refine uu_aload_n dX7_boxOf_88 rfl (List.mem_of_getElem? (i := 2) rfl) ?_
    refine uu_aload_n dX7_boxOf_89 rfl (List.mem_of_getElem? (i := 0) rfl) ?_
    refine uu_geta (ci := 7) (N := 20) fX7_18 (by decide) so_1070.is (by decide) (c := 1073) (by decide) dX7_boxOf_90 ?_
    refine uu_iload_n dX7_boxOf_93 rfl (List.mem_of_getElem? (i := 3) rfl) ?_
    obtain ⟨v13, e14, h⟩ := uu_ob h
    refine uu_iald e14 dX7_boxOf_94 ?_
    refine uu_aload_n dX7_boxOf_95 rfl (List.mem_of_getElem? (i := 2) rfl) ?_
    refine uu_iload_n dX7_boxOf_96 rfl (List.mem_of_getElem? (i := 1) rfl) ?_
    refine uu_iconst (v := 0) dX7_boxOf_97 (by decide) ?_
    obtain ⟨v15, e16, h⟩ := uu_ob h
    refine uu_cv (d1 := 1) (k := 8) (ci := 9) (T := TX9) (N := 6) (As := [.int v13, .ref (B + 8), .int x1, .int 0]) (st := []) (st' := [.int (bI v15)]) (xc_X9_isSameText uk so_8 so_8 e16) so_8.is (by decide) rfl kX9_isSameText lX7_209 sX9_isSameText (by decide) (Nat.le_of_ble_eq_true rfl) dX7_boxOf_98 rfl ?_
    refine uu_ifb_eq (tgt := 117) dX7_boxOf_101 (by decide) (fun c17 => ?_) (fun c17 => ?_)
    · replace h := uu_neg c17 h
      refine uu_iinc (v := x3 + 1) dX7_boxOf_117 (k := 3) rfl rfl (by decide) rfl ?_
      refine uu_goto (tgt := 80) dX7_boxOf_120 (by decide) ?_
      refine uu_lv [1, 2, 3, 0] (lv' := [(0, .ref (B + 1070)), (1, .int x1), (2, .ref (B + 8)), (3, .int (x3 + 1))]) rfl ?_
      exact hK80 x1 (x3 + 1) _ _ h
    · replace h := uu_pos c17 h
      refine uu_aload_n dX7_boxOf_104 rfl (List.mem_of_getElem? (i := 0) rfl) ?_
      obtain ⟨j18, e19, h⟩ := uu_ob h
      refine uu_getr (ci := 7) (N := 20) fX7_41 (by decide) so_1070.is (by decide) (by decide) e19 dX7_boxOf_105 ?_
      obtain ⟨g20, h⟩ := uu_grd h
      refine uu_getc (ci := 10) (N := 6) fX7_203 (by decide) g20.is (by decide) (c := 3) (by decide) (k2 := j18 + 3) rfl dX7_boxOf_108 ?_
      refine uu_geti (ci := 9) (N := 6) fX7_206 (by decide) (so_boxes g20).is (by decide) (by decide) dX7_boxOf_111 ?_
      refine uu_iload_n dX7_boxOf_114 rfl (List.mem_of_getElem? (i := 3) rfl) ?_
      refine uu_iadd dX7_boxOf_115 ?_
      have hr := Option.some.inj h
      subst hr
      exact uu_iret rfl dX7_boxOf_116
def fn_X7_boxOf_80  : Nat → Int32 → Int32 → uS → Option (uS × Int32)
  | 0 => fun _ _ _ => none
  | n + 1 => fb_X7_boxOf_80 (fn_X7_boxOf_80  n)
set_option maxRecDepth 100000 in
set_option maxHeartbeats 4000000 in
theorem xn_X7_boxOf_80 {l : Launch} {D : va_G} {A : Nat → ClassId} {B : Nat} {Z : State → Heap → Prop} {vF : Value} (uk : uK B Z vF)   : ∀ (n : Nat) (x1 : Int32) (x3 : Int32)  (s : uS) (r : (uS × Int32)), fn_X7_boxOf_80  n x1 x3 s = some r → GU l D A B Z mX7_boxOf 5 (r.1, some (.int r.2)) s 80 [(0, .ref (B + 1070)), (1, .int x1), (2, .ref (B + 8)), (3, .int x3)] [] := by
  intro n
  induction n with
  | zero => intro x1 x3 s r h
            cases h
  | succ n ih => intro x1 x3 s r h
                 exact xb_X7_boxOf_80 uk ih  h
def fb_X7_boxOf_39 (K39 : Int32 → Int32 → uS → Option (uS × Int32)) (x1 : Int32) (x3 : Int32) (s : uS) : Option (uS × Int32) := (s.R 1070 11).bind fun j1 => if uSo j1 10 then (if (s.I (j1 + 3) 3) ≤ x3 then (fn_X7_boxOf_80 uFu x1 0 s) else ((s.R 1070 11).bind fun j5 => if uSo j5 10 then ((fn_X9_isSameText (j5 + 3) x3 8 x1 false s).bind fun v8 => if v8 = true then (some (s, x3)) else (K39 x1 (x3 + 1) s)) else none)) else none
set_option maxRecDepth 100000 in
set_option maxHeartbeats 4000000 in
theorem xb_X7_boxOf_39 {l : Launch} {D : va_G} {A : Nat → ClassId} {B : Nat} {Z : State → Heap → Prop} {vF : Value} (uk : uK B Z vF) {K39 : Int32 → Int32 → uS → Option (uS × Int32)} (hK39 : ∀ (x1 : Int32) (x3 : Int32)  (s : uS) (r : (uS × Int32)), K39 x1 x3 s = some r → GU l D A B Z mX7_boxOf 5 (r.1, some (.int r.2)) s 39 [(0, .ref (B + 1070)), (1, .int x1), (2, .ref (B + 8)), (3, .int x3)] []) {x1 : Int32} {x3 : Int32} {s : uS} {r : (uS × Int32)}  (h : fb_X7_boxOf_39 K39 x1 x3 s = some r) : GU l D A B Z mX7_boxOf 5 (r.1, some (.int r.2)) s 39 [(0, .ref (B + 1070)), (1, .int x1), (2, .ref (B + 8)), (3, .int x3)] [] := by
  unfold fb_X7_boxOf_39 at h
  refine uu_iload_n dX7_boxOf_39 rfl (List.mem_of_getElem? (i := 3) rfl) ?_
  refine uu_aload_n dX7_boxOf_40 rfl (List.mem_of_getElem? (i := 0) rfl) ?_
  obtain ⟨j1, e2, h⟩ := uu_ob h
  refine uu_getr (ci := 7) (N := 20) fX7_41 (by decide) so_1070.is (by decide) (by decide) e2 dX7_boxOf_41 ?_
  obtain ⟨g3, h⟩ := uu_grd h
  refine uu_getc (ci := 10) (N := 6) fX7_203 (by decide) g3.is (by decide) (c := 3) (by decide) (k2 := j1 + 3) rfl dX7_boxOf_44 ?_
  refine uu_geti (ci := 9) (N := 6) fX7_206 (by decide) (so_boxes g3).is (by decide) (by decide) dX7_boxOf_47 ?_
  refine uu_icmp_ge (tgt := 78) dX7_boxOf_50 (by decide) (fun c4 => ?_) (fun c4 => ?_)
  · replace h := uu_pos c4 h
    refine uu_iconst (v := 0) dX7_boxOf_78 (by decide) ?_
    refine uu_istore_n dX7_boxOf_79 rfl (by decide) rfl ?_
    refine uu_lv [1, 2, 3, 0] (lv' := [(0, .ref (B + 1070)), (1, .int x1), (2, .ref (B + 8)), (3, .int 0)]) rfl ?_
    exact xn_X7_boxOf_80 uk  _ _ _ _ _ h
  · replace h := uu_neg c4 h
    refine uu_aload_n dX7_boxOf_53 rfl (List.mem_of_getElem? (i := 0) rfl) ?_
    obtain ⟨j5, e6, h⟩ := uu_ob h
    refine uu_getr (ci := 7) (N := 20) fX7_41 (by decide) so_1070.is (by decide) (by decide) e6 dX7_boxOf_54 ?_
    obtain ⟨g7, h⟩ := uu_grd h
    refine uu_getc (ci := 10) (N := 6) fX7_203 (by decide) g7.is (by decide) (c := 3) (by decide) (k2 := j5 + 3) rfl dX7_boxOf_57 ?_
    refine uu_iload_n dX7_boxOf_60 rfl (List.mem_of_getElem? (i := 3) rfl) ?_
    refine uu_aload_n dX7_boxOf_61 rfl (List.mem_of_getElem? (i := 2) rfl) ?_
    refine uu_iload_n dX7_boxOf_62 rfl (List.mem_of_getElem? (i := 1) rfl) ?_
    refine uu_iconst (v := 0) dX7_boxOf_63 (by decide) ?_
    obtain ⟨v8, e9, h⟩ := uu_ob h
    refine uu_cv (d1 := 1) (k := j5 + 3) (ci := 9) (T := TX9) (N := 6) (As := [.int x3, .ref (B + 8), .int x1, .int 0]) (st := []) (st' := [.int (bI v8)]) (xc_X9_isSameText uk (so_boxes g7) so_8 e9) (so_boxes g7).is (by decide) rfl kX9_isSameText lX7_209 sX9_isSameText (by decide) (Nat.le_of_ble_eq_true rfl) dX7_boxOf_64 rfl ?_
    refine uu_ifb_eq (tgt := 72) dX7_boxOf_67 (by decide) (fun c10 => ?_) (fun c10 => ?_)
    · replace h := uu_neg c10 h
      refine uu_iinc (v := x3 + 1) dX7_boxOf_72 (k := 3) rfl rfl (by decide) rfl ?_
      refine uu_goto (tgt := 39) dX7_boxOf_75 (by decide) ?_
      refine uu_lv [1, 2, 3, 0] (lv' := [(0, .ref (B + 1070)), (1, .int x1), (2, .ref (B + 8)), (3, .int (x3 + 1))]) rfl ?_
      exact hK39 x1 (x3 + 1) _ _ h
    · replace h := uu_pos c10 h
      refine uu_iload_n dX7_boxOf_70 rfl (List.mem_of_getElem? (i := 3) rfl) ?_
      have hr := Option.some.inj h
      subst hr
      exact uu_iret rfl dX7_boxOf_71
def fn_X7_boxOf_39  : Nat → Int32 → Int32 → uS → Option (uS × Int32)
  | 0 => fun _ _ _ => none
  | n + 1 => fb_X7_boxOf_39 (fn_X7_boxOf_39  n)
set_option maxRecDepth 100000 in
set_option maxHeartbeats 4000000 in
theorem xn_X7_boxOf_39 {l : Launch} {D : va_G} {A : Nat → ClassId} {B : Nat} {Z : State → Heap → Prop} {vF : Value} (uk : uK B Z vF)   : ∀ (n : Nat) (x1 : Int32) (x3 : Int32)  (s : uS) (r : (uS × Int32)), fn_X7_boxOf_39  n x1 x3 s = some r → GU l D A B Z mX7_boxOf 5 (r.1, some (.int r.2)) s 39 [(0, .ref (B + 1070)), (1, .int x1), (2, .ref (B + 8)), (3, .int x3)] [] := by
  intro n
  induction n with
  | zero => intro x1 x3 s r h
            cases h
  | succ n ih => intro x1 x3 s r h
                 exact xb_X7_boxOf_39 uk ih  h
def fn_X7_boxOf (x1 : Int32) (s : uS) : Option (uS × Int32) := (iget 20 s 10 x1).bind fun v2 => (iget 20 s 11 x1).bind fun v4 => (fn_X9_place kW_59 9 v2 v4 s).bind fun v6 => if v6 = 0 then (some (s, (0 : Int32))) else (fn_X7_boxOf_39 uFu x1 0 s)
set_option maxRecDepth 100000 in
set_option maxHeartbeats 4000000 in
theorem xc_X7_boxOf {l : Launch} {D : va_G} {A : Nat → ClassId} {B : Nat} {Z : State → Heap → Prop} {vF : Value} (uk : uK B Z vF) {x1 : Int32} {s : uS} {r : (uS × Int32)}  (h : fn_X7_boxOf x1 s = some r) : CU l D A B Z 5 mX7_boxOf s [.ref (B + 1070), .int x1] (r.1, some (.int r.2)) := by
  unfold fn_X7_boxOf at h
  refine cu_of rfl uk.1.1 (Nat.le_of_ble_eq_true rfl) ?_
  show GU _ _ _ _ _ _ _ _ _ 0 [(0, .ref (B + 1070)), (1, .int x1)] []
  refine uu_aload_n dX7_boxOf_0 rfl (List.mem_of_getElem? (i := 0) rfl) ?_
  refine uu_geta (ci := 7) (N := 20) fX7_33 (by decide) so_1070.is (by decide) (c := 6) (by decide) dX7_boxOf_1 ?_
  refine uu_geta (ci := 4) (N := 9) fX7_178 (by decide) so_6.is (by decide) (c := 7) (by decide) dX7_boxOf_4 ?_
  refine uu_geta (ci := 2) (N := 9) fX7_182 (by decide) so_7.is (by decide) (c := 8) (by decide) dX7_boxOf_7 ?_
  refine uu_astore_n dX7_boxOf_10 rfl (by decide) rfl ?_
  obtain ⟨cq1, cp1, cv1, cw1⟩ := uk.2.1 59 _ rfl
  refine uu_ldcS cv1 dX7_boxOf_11 ?_
  refine uu_aload_n dX7_boxOf_13 rfl (List.mem_of_getElem? (i := 0) rfl) ?_
  refine uu_getc (ci := 9) (N := 6) fX7_189 (by decide) so_8.is (by decide) (c := 1) (by decide) (k2 := 9) rfl dX7_boxOf_14 ?_
  refine uu_aload_n dX7_boxOf_17 rfl (List.mem_of_getElem? (i := 0) rfl) ?_
  refine uu_getc (ci := 9) (N := 6) fX7_193 (by decide) so_8.is (by decide) (c := 2) (by decide) (k2 := 10) rfl dX7_boxOf_18 ?_
  refine uu_iload_n dX7_boxOf_21 rfl (List.mem_of_getElem? (i := 2) rfl) ?_
  obtain ⟨v2, e3, h⟩ := uu_ob h
  refine uu_iald e3 dX7_boxOf_22 ?_
  refine uu_aload_n dX7_boxOf_23 rfl (List.mem_of_getElem? (i := 0) rfl) ?_
  refine uu_getc (ci := 9) (N := 6) fX7_196 (by decide) so_8.is (by decide) (c := 3) (by decide) (k2 := 11) rfl dX7_boxOf_24 ?_
  refine uu_iload_n dX7_boxOf_27 rfl (List.mem_of_getElem? (i := 2) rfl) ?_
  obtain ⟨v4, e5, h⟩ := uu_ob h
  refine uu_iald e5 dX7_boxOf_28 ?_
  obtain ⟨v6, e7, h⟩ := uu_ob h
  refine uu_cs (d1 := 4) (As := [.ref cq1, .ref (B + 9), .int v2, .int v4]) (st := []) (st' := [.int v6]) (xc_X9_place uk cw1 e7) kX9_place lX7_199 sX9_place (by decide) (Nat.le_of_ble_eq_true rfl) dX7_boxOf_29 rfl ?_
  refine uu_if_ne (tgt := 37) dX7_boxOf_32 (by decide) (fun c8 => ?_) (fun c8 => ?_)
  · replace h := uu_neg c8 h
    refine uu_iconst (v := 0) dX7_boxOf_37 (by decide) ?_
    refine uu_istore_n dX7_boxOf_38 rfl (by decide) rfl ?_
    refine uu_lv [2, 3, 1, 0] (lv' := [(0, .ref (B + 1070)), (1, .int x1), (2, .ref (B + 8)), (3, .int 0)]) rfl ?_
    exact xn_X7_boxOf_39 uk  _ _ _ _ _ h
  · replace h := uu_pos c8 h
    refine uu_iconst (v := 0) dX7_boxOf_35 (by decide) ?_
    have hr := Option.some.inj h
    subst hr
    exact uu_iret rfl dX7_boxOf_36
abbrev mX7_redirect : hM := (yX7_redirect, cX7_redirect, 5, none)
theorem dX7_redirect_30 : decode cX7_redirect 30 = .ok (.iload 4, 2) := by decide +kernel
theorem dX7_redirect_32 : decode cX7_redirect 32 = .ok (.aload_n 0, 1) := by decide +kernel
theorem dX7_redirect_33 : decode cX7_redirect 33 = .ok (.getfield 65, 3) := by decide +kernel
theorem dX7_redirect_36 : decode cX7_redirect 36 = .ok (.if_icmp .ge 27, 3) := by decide +kernel
theorem dX7_redirect_63 : decode cX7_redirect 63 = .ok (.aload_n 0, 1) := by decide +kernel
theorem dX7_redirect_64 : decode cX7_redirect 64 = .ok (.getfield 65, 3) := by decide +kernel
theorem dX7_redirect_67 : decode cX7_redirect 67 = .ok (.iconst 4, 1) := by decide +kernel
theorem dX7_redirect_68 : decode cX7_redirect 68 = .ok (.if_icmp .ne 8, 3) := by decide +kernel
theorem dX7_redirect_76 : decode cX7_redirect 76 = .ok (.aload_n 0, 1) := by decide +kernel
theorem dX7_redirect_77 : decode cX7_redirect 77 = .ok (.getfield 21, 3) := by decide +kernel
theorem dX7_redirect_80 : decode cX7_redirect 80 = .ok (.aload_n 0, 1) := by decide +kernel
theorem dX7_redirect_81 : decode cX7_redirect 81 = .ok (.getfield 65, 3) := by decide +kernel
theorem dX7_redirect_84 : decode cX7_redirect 84 = .ok (.iload_n 3, 1) := by decide +kernel
theorem dX7_redirect_85 : decode cX7_redirect 85 = .ok (.iastore, 1) := by decide +kernel
theorem dX7_redirect_86 : decode cX7_redirect 86 = .ok (.aload_n 0, 1) := by decide +kernel
theorem dX7_redirect_87 : decode cX7_redirect 87 = .ok (.dup, 1) := by decide +kernel
theorem dX7_redirect_88 : decode cX7_redirect 88 = .ok (.getfield 65, 3) := by decide +kernel
theorem dX7_redirect_91 : decode cX7_redirect 91 = .ok (.iconst 1, 1) := by decide +kernel
theorem dX7_redirect_92 : decode cX7_redirect 92 = .ok (.iadd, 1) := by decide +kernel
theorem dX7_redirect_93 : decode cX7_redirect 93 = .ok (.putfield 65, 3) := by decide +kernel
theorem dX7_redirect_96 : decode cX7_redirect 96 = .ok (.return_, 1) := by decide +kernel
theorem dX7_redirect_71 : decode cX7_redirect 71 = .ok (.aload_n 0, 1) := by decide +kernel
theorem dX7_redirect_72 : decode cX7_redirect 72 = .ok (.invokevirtual 165, 3) := by decide +kernel
theorem dX7_redirect_75 : decode cX7_redirect 75 = .ok (.return_, 1) := by decide +kernel
theorem dX7_redirect_39 : decode cX7_redirect 39 = .ok (.aload_n 2, 1) := by decide +kernel
theorem dX7_redirect_40 : decode cX7_redirect 40 = .ok (.aload_n 0, 1) := by decide +kernel
theorem dX7_redirect_41 : decode cX7_redirect 41 = .ok (.getfield 21, 3) := by decide +kernel
theorem dX7_redirect_44 : decode cX7_redirect 44 = .ok (.iload 4, 2) := by decide +kernel
theorem dX7_redirect_46 : decode cX7_redirect 46 = .ok (.iaload, 1) := by decide +kernel
theorem dX7_redirect_47 : decode cX7_redirect 47 = .ok (.aload_n 2, 1) := by decide +kernel
theorem dX7_redirect_48 : decode cX7_redirect 48 = .ok (.iload_n 3, 1) := by decide +kernel
theorem dX7_redirect_49 : decode cX7_redirect 49 = .ok (.iconst 1, 1) := by decide +kernel
theorem dX7_redirect_50 : decode cX7_redirect 50 = .ok (.invokevirtual 209, 3) := by decide +kernel
theorem dX7_redirect_53 : decode cX7_redirect 53 = .ok (.ifCond .eq 4, 3) := by decide +kernel
theorem dX7_redirect_57 : decode cX7_redirect 57 = .ok (.iinc 4 1, 3) := by decide +kernel
theorem dX7_redirect_60 : decode cX7_redirect 60 = .ok (.goto (-30), 3) := by decide +kernel
theorem dX7_redirect_56 : decode cX7_redirect 56 = .ok (.return_, 1) := by decide +kernel
theorem dX7_redirect_0 : decode cX7_redirect 0 = .ok (.aload_n 0, 1) := by decide +kernel
theorem dX7_redirect_1 : decode cX7_redirect 1 = .ok (.getfield 33, 3) := by decide +kernel
theorem dX7_redirect_4 : decode cX7_redirect 4 = .ok (.getfield 178, 3) := by decide +kernel
theorem dX7_redirect_7 : decode cX7_redirect 7 = .ok (.getfield 182, 3) := by decide +kernel
theorem dX7_redirect_10 : decode cX7_redirect 10 = .ok (.astore_n 2, 1) := by decide +kernel
theorem dX7_redirect_11 : decode cX7_redirect 11 = .ok (.aload_n 1, 1) := by decide +kernel
theorem fX7_149 : h_fl RX7 149 3 13 RX3 TX3 15 := ⟨rfl, by decide, inX3, h_t1 186 rfl rfl⟩
theorem dX7_redirect_12 : decode cX7_redirect 12 = .ok (.getfield 149, 3) := by decide +kernel
theorem dX7_redirect_15 : decode cX7_redirect 15 = .ok (.iconst 4, 1) := by decide +kernel
theorem dX7_redirect_16 : decode cX7_redirect 16 = .ok (.iaload, 1) := by decide +kernel
theorem dX7_redirect_17 : decode cX7_redirect 17 = .ok (.istore_n 3, 1) := by decide +kernel
theorem dX7_redirect_18 : decode cX7_redirect 18 = .ok (.aload_n 0, 1) := by decide +kernel
theorem dX7_redirect_19 : decode cX7_redirect 19 = .ok (.aload_n 1, 1) := by decide +kernel
theorem dX7_redirect_20 : decode cX7_redirect 20 = .ok (.invokevirtual 172, 3) := by decide +kernel
theorem dX7_redirect_23 : decode cX7_redirect 23 = .ok (.ifCond .ne 4, 3) := by decide +kernel
theorem dX7_redirect_27 : decode cX7_redirect 27 = .ok (.iconst 0, 1) := by decide +kernel
theorem dX7_redirect_28 : decode cX7_redirect 28 = .ok (.istore 4, 2) := by decide +kernel
theorem dX7_redirect_26 : decode cX7_redirect 26 = .ok (.return_, 1) := by decide +kernel
def fb_X7_redirect_30 (K30 : Int32 → Int32 → uS → Option uS) (x3 : Int32) (x4 : Int32) (s : uS) : Option uS := if (s.I 1070 7) ≤ x4 then (if (s.I 1070 7) = 4 then ((fn_X7_fail s).bind fun s5 => some s5) else ((iput 20 s 1074 (s.I 1070 7) x3).bind fun s3 => some (wI s3 1070 7 ((s3.I 1070 7) + 1)))) else ((iget 20 s 1074 x4).bind fun v7 => (fn_X9_isSameText 8 v7 8 x3 true s).bind fun v9 => if v9 = true then (some s) else (K30 x3 (x4 + 1) s))
set_option maxRecDepth 100000 in
set_option maxHeartbeats 4000000 in
theorem xb_X7_redirect_30 {l : Launch} {D : va_G} {A : Nat → ClassId} {B : Nat} {Z : State → Heap → Prop} {vF : Value} (uk : uK B Z vF) {K30 : Int32 → Int32 → uS → Option uS} (hK30 : ∀ (x3 : Int32) (x4 : Int32)  (s : uS) (r : uS), K30 x3 x4 s = some r → GU l D A B Z mX7_redirect 2 (r, none) s 30 [(0, .ref (B + 1070)), (2, .ref (B + 8)), (3, .int x3), (4, .int x4)] []) {x3 : Int32} {x4 : Int32} {s : uS} {r : uS}  (h : fb_X7_redirect_30 K30 x3 x4 s = some r) : GU l D A B Z mX7_redirect 2 (r, none) s 30 [(0, .ref (B + 1070)), (2, .ref (B + 8)), (3, .int x3), (4, .int x4)] [] := by
  unfold fb_X7_redirect_30 at h
  refine uu_iload dX7_redirect_30 (List.mem_of_getElem? (i := 3) rfl) ?_
  refine uu_aload_n dX7_redirect_32 rfl (List.mem_of_getElem? (i := 0) rfl) ?_
  refine uu_geti (ci := 7) (N := 20) fX7_65 (by decide) so_1070.is (by decide) (by decide) dX7_redirect_33 ?_
  refine uu_icmp_ge (tgt := 63) dX7_redirect_36 (by decide) (fun c1 => ?_) (fun c1 => ?_)
  · replace h := uu_pos c1 h
    refine uu_aload_n dX7_redirect_63 rfl (List.mem_of_getElem? (i := 0) rfl) ?_
    refine uu_geti (ci := 7) (N := 20) fX7_65 (by decide) so_1070.is (by decide) (by decide) dX7_redirect_64 ?_
    refine uu_iconst (v := 4) dX7_redirect_67 (by decide) ?_
    refine uu_icmp_ne (tgt := 76) dX7_redirect_68 (by decide) (fun c2 => ?_) (fun c2 => ?_)
    · replace h := uu_neg c2 h
      refine uu_aload_n dX7_redirect_76 rfl (List.mem_of_getElem? (i := 0) rfl) ?_
      refine uu_geta (ci := 7) (N := 20) fX7_21 (by decide) so_1070.is (by decide) (c := 1074) (by decide) dX7_redirect_77 ?_
      refine uu_aload_n dX7_redirect_80 rfl (List.mem_of_getElem? (i := 0) rfl) ?_
      refine uu_geti (ci := 7) (N := 20) fX7_65 (by decide) so_1070.is (by decide) (by decide) dX7_redirect_81 ?_
      refine uu_iload_n dX7_redirect_84 rfl (List.mem_of_getElem? (i := 2) rfl) ?_
      obtain ⟨s3, e4, h⟩ := uu_ob h
      refine uu_iast e4 dX7_redirect_85 ?_
      refine uu_aload_n dX7_redirect_86 rfl (List.mem_of_getElem? (i := 0) rfl) ?_
      refine uu_dup dX7_redirect_87 rfl ?_
      refine uu_geti (ci := 7) (N := 20) fX7_65 (by decide) so_1070.is (by decide) (by decide) dX7_redirect_88 ?_
      refine uu_iconst (v := 1) dX7_redirect_91 (by decide) ?_
      refine uu_iadd dX7_redirect_92 ?_
      refine uu_puti (ft := .int) (ci := 7) (N := 20) fX7_65 ptX7 (Or.inl rfl) (by decide) so_1070.is (by decide) (by decide) (by decide +kernel) rfl rfl dX7_redirect_93 ?_
      have hr := Option.some.inj h
      subst hr
      exact uu_vret rfl dX7_redirect_96
    · replace h := uu_pos c2 h
      refine uu_aload_n dX7_redirect_71 rfl (List.mem_of_getElem? (i := 0) rfl) ?_
      obtain ⟨s5, e6, h⟩ := uu_ob h
      refine uu_cv (d1 := 0) (k := 1070) (ci := 7) (T := TX7) (N := 20) (As := []) (st := []) (st' := []) (xc_X7_fail uk  e6) so_1070.is (by decide) rfl kX7_fail lX7_165 sX7_fail (by decide) (Nat.le_of_ble_eq_true rfl) dX7_redirect_72 rfl ?_
      have hr := Option.some.inj h
      subst hr
      exact uu_vret rfl dX7_redirect_75
  · replace h := uu_neg c1 h
    refine uu_aload_n dX7_redirect_39 rfl (List.mem_of_getElem? (i := 1) rfl) ?_
    refine uu_aload_n dX7_redirect_40 rfl (List.mem_of_getElem? (i := 0) rfl) ?_
    refine uu_geta (ci := 7) (N := 20) fX7_21 (by decide) so_1070.is (by decide) (c := 1074) (by decide) dX7_redirect_41 ?_
    refine uu_iload dX7_redirect_44 (List.mem_of_getElem? (i := 3) rfl) ?_
    obtain ⟨v7, e8, h⟩ := uu_ob h
    refine uu_iald e8 dX7_redirect_46 ?_
    refine uu_aload_n dX7_redirect_47 rfl (List.mem_of_getElem? (i := 1) rfl) ?_
    refine uu_iload_n dX7_redirect_48 rfl (List.mem_of_getElem? (i := 2) rfl) ?_
    refine uu_iconst (v := 1) dX7_redirect_49 (by decide) ?_
    obtain ⟨v9, e10, h⟩ := uu_ob h
    refine uu_cv (d1 := 1) (k := 8) (ci := 9) (T := TX9) (N := 6) (As := [.int v7, .ref (B + 8), .int x3, .int 1]) (st := []) (st' := [.int (bI v9)]) (xc_X9_isSameText uk so_8 so_8 e10) so_8.is (by decide) rfl kX9_isSameText lX7_209 sX9_isSameText (by decide) (Nat.le_of_ble_eq_true rfl) dX7_redirect_50 rfl ?_
    refine uu_ifb_eq (tgt := 57) dX7_redirect_53 (by decide) (fun c11 => ?_) (fun c11 => ?_)
    · replace h := uu_neg c11 h
      refine uu_iinc (v := x4 + 1) dX7_redirect_57 (k := 3) rfl rfl (by decide) rfl ?_
      refine uu_goto (tgt := 30) dX7_redirect_60 (by decide) ?_
      refine uu_lv [1, 2, 3, 0] (lv' := [(0, .ref (B + 1070)), (2, .ref (B + 8)), (3, .int x3), (4, .int (x4 + 1))]) rfl ?_
      exact hK30 x3 (x4 + 1) _ _ h
    · replace h := uu_pos c11 h
      have hr := Option.some.inj h
      subst hr
      exact uu_vret rfl dX7_redirect_56
def fn_X7_redirect_30  : Nat → Int32 → Int32 → uS → Option uS
  | 0 => fun _ _ _ => none
  | n + 1 => fb_X7_redirect_30 (fn_X7_redirect_30  n)
set_option maxRecDepth 100000 in
set_option maxHeartbeats 4000000 in
theorem xn_X7_redirect_30 {l : Launch} {D : va_G} {A : Nat → ClassId} {B : Nat} {Z : State → Heap → Prop} {vF : Value} (uk : uK B Z vF)   : ∀ (n : Nat) (x3 : Int32) (x4 : Int32)  (s : uS) (r : uS), fn_X7_redirect_30  n x3 x4 s = some r → GU l D A B Z mX7_redirect 2 (r, none) s 30 [(0, .ref (B + 1070)), (2, .ref (B + 8)), (3, .int x3), (4, .int x4)] [] := by
  intro n
  induction n with
  | zero => intro x3 x4 s r h
            cases h
  | succ n ih => intro x3 x4 s r h
                 exact xb_X7_redirect_30 uk ih  h
def fn_X7_redirect (k1 : Nat) (s : uS) : Option uS := (iget 20 s (k1 + 1) 4).bind fun v1 => (fn_X7_act k1 s).bind fun r3 => if r3.2 = true then (fn_X7_redirect_30 uFu v1 0 r3.1) else (some r3.1)
set_option maxRecDepth 100000 in
set_option maxHeartbeats 4000000 in
theorem xc_X7_redirect {l : Launch} {D : va_G} {A : Nat → ClassId} {B : Nat} {Z : State → Heap → Prop} {vF : Value} (uk : uK B Z vF) {k1 : Nat} {s : uS} {r : uS} (hk1 : uSo k1 3) (h : fn_X7_redirect k1 s = some r) : CU l D A B Z 2 mX7_redirect s [.ref (B + 1070), .ref (B + k1)] (r, none) := by
  unfold fn_X7_redirect at h
  refine cu_of rfl uk.1.1 (Nat.le_of_ble_eq_true rfl) ?_
  show GU _ _ _ _ _ _ _ _ _ 0 [(0, .ref (B + 1070)), (1, .ref (B + k1))] []
  refine uu_aload_n dX7_redirect_0 rfl (List.mem_of_getElem? (i := 0) rfl) ?_
  refine uu_geta (ci := 7) (N := 20) fX7_33 (by decide) so_1070.is (by decide) (c := 6) (by decide) dX7_redirect_1 ?_
  refine uu_geta (ci := 4) (N := 9) fX7_178 (by decide) so_6.is (by decide) (c := 7) (by decide) dX7_redirect_4 ?_
  refine uu_geta (ci := 2) (N := 9) fX7_182 (by decide) so_7.is (by decide) (c := 8) (by decide) dX7_redirect_7 ?_
  refine uu_astore_n dX7_redirect_10 rfl (by decide) rfl ?_
  refine uu_aload_n dX7_redirect_11 rfl (List.mem_of_getElem? (i := 2) rfl) ?_
  refine uu_getc (ci := 3) (N := 15) fX7_149 (by decide) hk1.is (by decide) (c := 1) (by decide) (k2 := k1 + 1) rfl dX7_redirect_12 ?_
  refine uu_iconst (v := 4) dX7_redirect_15 (by decide) ?_
  obtain ⟨v1, e2, h⟩ := uu_ob h
  refine uu_iald e2 dX7_redirect_16 ?_
  refine uu_istore_n dX7_redirect_17 rfl (by decide) rfl ?_
  refine uu_aload_n dX7_redirect_18 rfl (List.mem_of_getElem? (i := 2) rfl) ?_
  refine uu_aload_n dX7_redirect_19 rfl (List.mem_of_getElem? (i := 3) rfl) ?_
  obtain ⟨r3, e4, h⟩ := uu_ob h
  refine uu_cv (d1 := 1) (k := 1070) (ci := 7) (T := TX7) (N := 20) (As := [.ref (B + k1)]) (st := []) (st' := [.int (bI r3.2)]) (xc_X7_act uk hk1 e4) so_1070.is (by decide) rfl kX7_act lX7_172 sX7_act (by decide) (Nat.le_of_ble_eq_true rfl) dX7_redirect_20 rfl ?_
  refine uu_ifb_ne (tgt := 27) dX7_redirect_23 (by decide) (fun c5 => ?_) (fun c5 => ?_)
  · replace h := uu_pos c5 h
    refine uu_iconst (v := 0) dX7_redirect_27 (by decide) ?_
    refine uu_istore dX7_redirect_28 (by decide) rfl ?_
    refine uu_lv [3, 2, 1, 0] (lv' := [(0, .ref (B + 1070)), (2, .ref (B + 8)), (3, .int v1), (4, .int 0)]) rfl ?_
    exact xn_X7_redirect_30 uk  _ _ _ _ _ h
  · replace h := uu_neg c5 h
    have hr := Option.some.inj h
    subst hr
    exact uu_vret rfl dX7_redirect_26
abbrev mX7_rejectMessage : hM := (yX7_rejectMessage, cX7_rejectMessage, 2, none)
theorem dX7_rejectMessage_21 : decode cX7_rejectMessage 21 = .ok (.aload_n 0, 1) := by decide +kernel
theorem dX7_rejectMessage_22 : decode cX7_rejectMessage 22 = .ok (.invokevirtual 165, 3) := by decide +kernel
theorem dX7_rejectMessage_25 : decode cX7_rejectMessage 25 = .ok (.return_, 1) := by decide +kernel
theorem dX7_rejectMessage_0 : decode cX7_rejectMessage 0 = .ok (.aload_n 0, 1) := by decide +kernel
theorem dX7_rejectMessage_1 : decode cX7_rejectMessage 1 = .ok (.getfield 78, 3) := by decide +kernel
theorem dX7_rejectMessage_4 : decode cX7_rejectMessage 4 = .ok (.ifCond .ne 17, 3) := by decide +kernel
theorem dX7_rejectMessage_7 : decode cX7_rejectMessage 7 = .ok (.aload_n 0, 1) := by decide +kernel
theorem dX7_rejectMessage_8 : decode cX7_rejectMessage 8 = .ok (.getfield 72, 3) := by decide +kernel
theorem dX7_rejectMessage_11 : decode cX7_rejectMessage 11 = .ok (.ifnonnull 10, 3) := by decide +kernel
theorem dX7_rejectMessage_14 : decode cX7_rejectMessage 14 = .ok (.aload_n 0, 1) := by decide +kernel
theorem dX7_rejectMessage_15 : decode cX7_rejectMessage 15 = .ok (.getfield 68, 3) := by decide +kernel
theorem dX7_rejectMessage_18 : decode cX7_rejectMessage 18 = .ok (.ifnull 8, 3) := by decide +kernel
theorem dX7_rejectMessage_26 : decode cX7_rejectMessage 26 = .ok (.aload_n 0, 1) := by decide +kernel
theorem dX7_rejectMessage_27 : decode cX7_rejectMessage 27 = .ok (.aload_n 1, 1) := by decide +kernel
theorem dX7_rejectMessage_28 : decode cX7_rejectMessage 28 = .ok (.putfield 72, 3) := by decide +kernel
theorem dX7_rejectMessage_31 : decode cX7_rejectMessage 31 = .ok (.aload_n 0, 1) := by decide +kernel
theorem dX7_rejectMessage_32 : decode cX7_rejectMessage 32 = .ok (.iconst 0, 1) := by decide +kernel
theorem dX7_rejectMessage_33 : decode cX7_rejectMessage 33 = .ok (.putfield 81, 3) := by decide +kernel
theorem dX7_rejectMessage_36 : decode cX7_rejectMessage 36 = .ok (.return_, 1) := by decide +kernel
def fb_X7_rejectMessage_21   (s : uS) : Option uS := (fn_X7_fail s).bind fun s1 => some s1
set_option maxRecDepth 100000 in
set_option maxHeartbeats 4000000 in
theorem xb_X7_rejectMessage_21 {l : Launch} {D : va_G} {A : Nat → ClassId} {B : Nat} {Z : State → Heap → Prop} {vF : Value} (uk : uK B Z vF)    {s : uS} {r : uS}  (h : fb_X7_rejectMessage_21   s = some r) : GU l D A B Z mX7_rejectMessage 1 (r, none) s 21 [(0, .ref (B + 1070))] [] := by
  unfold fb_X7_rejectMessage_21 at h
  refine uu_aload_n dX7_rejectMessage_21 rfl (List.mem_of_getElem? (i := 0) rfl) ?_
  obtain ⟨s1, e2, h⟩ := uu_ob h
  refine uu_cv (d1 := 0) (k := 1070) (ci := 7) (T := TX7) (N := 20) (As := []) (st := []) (st' := []) (xc_X7_fail uk  e2) so_1070.is (by decide) rfl kX7_fail lX7_165 sX7_fail (by decide) (Nat.le_of_ble_eq_true rfl) dX7_rejectMessage_22 rfl ?_
  have hr := Option.some.inj h
  subst hr
  exact uu_vret rfl dX7_rejectMessage_25
def fn_X7_rejectMessage (k1 : Nat) (s : uS) : Option uS := if (s.I 1070 15) = 0 then ((match s.R 1070 10 with | none => (match s.R 1070 9 with | none => some (wI (wR s 1070 10 (some k1)) 1070 14 0) | some j3 => if uSo j3 3 then (fb_X7_rejectMessage_21 s) else none) | some j2 => if uSo j2 3 then (fb_X7_rejectMessage_21 s) else none)) else (fb_X7_rejectMessage_21 s)
set_option maxRecDepth 100000 in
set_option maxHeartbeats 4000000 in
theorem xc_X7_rejectMessage {l : Launch} {D : va_G} {A : Nat → ClassId} {B : Nat} {Z : State → Heap → Prop} {vF : Value} (uk : uK B Z vF) {k1 : Nat} {s : uS} {r : uS} (hk1 : uSo k1 3) (h : fn_X7_rejectMessage k1 s = some r) : CU l D A B Z 1 mX7_rejectMessage s [.ref (B + 1070), .ref (B + k1)] (r, none) := by
  unfold fn_X7_rejectMessage at h
  refine cu_of rfl uk.1.1 (Nat.le_of_ble_eq_true rfl) ?_
  show GU _ _ _ _ _ _ _ _ _ 0 [(0, .ref (B + 1070)), (1, .ref (B + k1))] []
  refine uu_aload_n dX7_rejectMessage_0 rfl (List.mem_of_getElem? (i := 0) rfl) ?_
  refine uu_geti (ci := 7) (N := 20) fX7_78 (by decide) so_1070.is (by decide) (by decide) dX7_rejectMessage_1 ?_
  refine uu_if_ne (tgt := 21) dX7_rejectMessage_4 (by decide) (fun c1 => ?_) (fun c1 => ?_)
  · replace h := uu_neg c1 h
    refine uu_lv [0] (lv' := [(0, .ref (B + 1070))]) rfl ?_
    exact xb_X7_rejectMessage_21 uk  h
  · replace h := uu_pos c1 h
    refine uu_aload_n dX7_rejectMessage_7 rfl (List.mem_of_getElem? (i := 0) rfl) ?_
    refine uu_getv (ci := 7) (N := 20) fX7_72 (by decide) so_1070.is (by decide) (by decide) dX7_rejectMessage_8 ?_
    cases eo2 : s.R 1070 10 with
    | none =>
      rw [eo2] at h
      refine uu_ifnonnullN dX7_rejectMessage_11 ?_
      refine uu_aload_n dX7_rejectMessage_14 rfl (List.mem_of_getElem? (i := 0) rfl) ?_
      refine uu_getv (ci := 7) (N := 20) fX7_68 (by decide) so_1070.is (by decide) (by decide) dX7_rejectMessage_15 ?_
      cases eo3 : s.R 1070 9 with
      | none =>
        rw [eo3] at h
        refine uu_ifnullN (tgt := 26) dX7_rejectMessage_18 (by decide) ?_
        refine uu_aload_n dX7_rejectMessage_26 rfl (List.mem_of_getElem? (i := 0) rfl) ?_
        refine uu_aload_n dX7_rejectMessage_27 rfl (List.mem_of_getElem? (i := 1) rfl) ?_
        refine uu_putr (x := (some k1)) (ft := (.object "SortedMail$Node")) (ci := 7) (N := 20) fX7_72 ptX7 (Or.inl rfl) (by decide) so_1070.is (by decide) (by decide) (by decide +kernel) rfl rfl dX7_rejectMessage_28 ?_
        refine uu_aload_n dX7_rejectMessage_31 rfl (List.mem_of_getElem? (i := 0) rfl) ?_
        refine uu_iconst (v := 0) dX7_rejectMessage_32 (by decide) ?_
        refine uu_puti (ft := .boolean) (ci := 7) (N := 20) fX7_81 ptX7 (Or.inl rfl) (by decide) so_1070.is (by decide) (by decide) (by decide +kernel) rfl rfl dX7_rejectMessage_33 ?_
        have hr := Option.some.inj h
        subst hr
        exact uu_vret rfl dX7_rejectMessage_36
      | some j3 =>
        rw [eo3] at h
        obtain ⟨hj3, h⟩ := uu_grd h
        refine uu_ifnull dX7_rejectMessage_18 ?_
        refine uu_lv [0] (lv' := [(0, .ref (B + 1070))]) rfl ?_
        exact xb_X7_rejectMessage_21 uk  h
    | some j2 =>
      rw [eo2] at h
      obtain ⟨hj2, h⟩ := uu_grd h
      refine uu_ifnonnull (tgt := 21) dX7_rejectMessage_11 (by decide) ?_
      refine uu_lv [0] (lv' := [(0, .ref (B + 1070))]) rfl ?_
      exact xb_X7_rejectMessage_21 uk  h
abbrev mX7_goAway : hM := (yX7_goAway, cX7_goAway, 2, none)
theorem dX7_goAway_14 : decode cX7_goAway 14 = .ok (.aload_n 0, 1) := by decide +kernel
theorem dX7_goAway_15 : decode cX7_goAway 15 = .ok (.invokevirtual 165, 3) := by decide +kernel
theorem dX7_goAway_18 : decode cX7_goAway 18 = .ok (.return_, 1) := by decide +kernel
theorem dX7_goAway_0 : decode cX7_goAway 0 = .ok (.aload_n 0, 1) := by decide +kernel
theorem dX7_goAway_1 : decode cX7_goAway 1 = .ok (.getfield 72, 3) := by decide +kernel
theorem dX7_goAway_4 : decode cX7_goAway 4 = .ok (.ifnonnull 10, 3) := by decide +kernel
theorem dX7_goAway_7 : decode cX7_goAway 7 = .ok (.aload_n 0, 1) := by decide +kernel
theorem dX7_goAway_8 : decode cX7_goAway 8 = .ok (.getfield 68, 3) := by decide +kernel
theorem dX7_goAway_11 : decode cX7_goAway 11 = .ok (.ifnull 8, 3) := by decide +kernel
theorem dX7_goAway_19 : decode cX7_goAway 19 = .ok (.aload_n 0, 1) := by decide +kernel
theorem dX7_goAway_20 : decode cX7_goAway 20 = .ok (.aload_n 1, 1) := by decide +kernel
theorem dX7_goAway_21 : decode cX7_goAway 21 = .ok (.putfield 68, 3) := by decide +kernel
theorem dX7_goAway_24 : decode cX7_goAway 24 = .ok (.return_, 1) := by decide +kernel
def fb_X7_goAway_14   (s : uS) : Option uS := (fn_X7_fail s).bind fun s1 => some s1
set_option maxRecDepth 100000 in
set_option maxHeartbeats 4000000 in
theorem xb_X7_goAway_14 {l : Launch} {D : va_G} {A : Nat → ClassId} {B : Nat} {Z : State → Heap → Prop} {vF : Value} (uk : uK B Z vF)    {s : uS} {r : uS}  (h : fb_X7_goAway_14   s = some r) : GU l D A B Z mX7_goAway 1 (r, none) s 14 [(0, .ref (B + 1070))] [] := by
  unfold fb_X7_goAway_14 at h
  refine uu_aload_n dX7_goAway_14 rfl (List.mem_of_getElem? (i := 0) rfl) ?_
  obtain ⟨s1, e2, h⟩ := uu_ob h
  refine uu_cv (d1 := 0) (k := 1070) (ci := 7) (T := TX7) (N := 20) (As := []) (st := []) (st' := []) (xc_X7_fail uk  e2) so_1070.is (by decide) rfl kX7_fail lX7_165 sX7_fail (by decide) (Nat.le_of_ble_eq_true rfl) dX7_goAway_15 rfl ?_
  have hr := Option.some.inj h
  subst hr
  exact uu_vret rfl dX7_goAway_18
def fn_X7_goAway (k1 : Nat) (s : uS) : Option uS := (match s.R 1070 10 with | none => (match s.R 1070 9 with | none => some (wR s 1070 9 (some k1)) | some j2 => if uSo j2 3 then (fb_X7_goAway_14 s) else none) | some j1 => if uSo j1 3 then (fb_X7_goAway_14 s) else none)
set_option maxRecDepth 100000 in
set_option maxHeartbeats 4000000 in
theorem xc_X7_goAway {l : Launch} {D : va_G} {A : Nat → ClassId} {B : Nat} {Z : State → Heap → Prop} {vF : Value} (uk : uK B Z vF) {k1 : Nat} {s : uS} {r : uS} (hk1 : uSo k1 3) (h : fn_X7_goAway k1 s = some r) : CU l D A B Z 1 mX7_goAway s [.ref (B + 1070), .ref (B + k1)] (r, none) := by
  unfold fn_X7_goAway at h
  refine cu_of rfl uk.1.1 (Nat.le_of_ble_eq_true rfl) ?_
  show GU _ _ _ _ _ _ _ _ _ 0 [(0, .ref (B + 1070)), (1, .ref (B + k1))] []
  refine uu_aload_n dX7_goAway_0 rfl (List.mem_of_getElem? (i := 0) rfl) ?_
  refine uu_getv (ci := 7) (N := 20) fX7_72 (by decide) so_1070.is (by decide) (by decide) dX7_goAway_1 ?_
  cases eo1 : s.R 1070 10 with
  | none =>
    rw [eo1] at h
    refine uu_ifnonnullN dX7_goAway_4 ?_
    refine uu_aload_n dX7_goAway_7 rfl (List.mem_of_getElem? (i := 0) rfl) ?_
    refine uu_getv (ci := 7) (N := 20) fX7_68 (by decide) so_1070.is (by decide) (by decide) dX7_goAway_8 ?_
    cases eo2 : s.R 1070 9 with
    | none =>
      rw [eo2] at h
      refine uu_ifnullN (tgt := 19) dX7_goAway_11 (by decide) ?_
      refine uu_aload_n dX7_goAway_19 rfl (List.mem_of_getElem? (i := 0) rfl) ?_
      refine uu_aload_n dX7_goAway_20 rfl (List.mem_of_getElem? (i := 1) rfl) ?_
      refine uu_putr (x := (some k1)) (ft := (.object "SortedMail$Node")) (ci := 7) (N := 20) fX7_68 ptX7 (Or.inl rfl) (by decide) so_1070.is (by decide) (by decide) (by decide +kernel) rfl rfl dX7_goAway_21 ?_
      have hr := Option.some.inj h
      subst hr
      exact uu_vret rfl dX7_goAway_24
    | some j2 =>
      rw [eo2] at h
      obtain ⟨hj2, h⟩ := uu_grd h
      refine uu_ifnull dX7_goAway_11 ?_
      refine uu_lv [0] (lv' := [(0, .ref (B + 1070))]) rfl ?_
      exact xb_X7_goAway_14 uk  h
  | some j1 =>
    rw [eo1] at h
    obtain ⟨hj1, h⟩ := uu_grd h
    refine uu_ifnonnull (tgt := 14) dX7_goAway_4 (by decide) ?_
    refine uu_lv [0] (lv' := [(0, .ref (B + 1070))]) rfl ?_
    exact xb_X7_goAway_14 uk  h
abbrev mX7_perform : hM := (yX7_perform, cX7_perform, 2, none)
theorem dX7_perform_0 : decode cX7_perform 0 = .ok (.aload_n 1, 1) := by decide +kernel
theorem dX7_perform_1 : decode cX7_perform 1 = .ok (.getfield 116, 3) := by decide +kernel
theorem dX7_perform_4 : decode cX7_perform 4 = .ok (.tableswitch 168 1 10 #[56, 64, 72, 81, 99, 107, 123, 134, 150, 115], 56) := by decide +kernel
theorem dX7_perform_60 : decode cX7_perform 60 = .ok (.aload_n 0, 1) := by decide +kernel
theorem dX7_perform_61 : decode cX7_perform 61 = .ok (.iconst 1, 1) := by decide +kernel
theorem dX7_perform_62 : decode cX7_perform 62 = .ok (.putfield 53, 3) := by decide +kernel
theorem dX7_perform_65 : decode cX7_perform 65 = .ok (.goto 107, 3) := by decide +kernel
theorem dX7_perform_172 : decode cX7_perform 172 = .ok (.return_, 1) := by decide +kernel
theorem dX7_perform_68 : decode cX7_perform 68 = .ok (.aload_n 0, 1) := by decide +kernel
theorem dX7_perform_69 : decode cX7_perform 69 = .ok (.iconst 0, 1) := by decide +kernel
theorem dX7_perform_70 : decode cX7_perform 70 = .ok (.putfield 81, 3) := by decide +kernel
theorem dX7_perform_73 : decode cX7_perform 73 = .ok (.goto 99, 3) := by decide +kernel
theorem dX7_perform_76 : decode cX7_perform 76 = .ok (.aload_n 0, 1) := by decide +kernel
theorem dX7_perform_77 : decode cX7_perform 77 = .ok (.iconst 0, 1) := by decide +kernel
theorem dX7_perform_78 : decode cX7_perform 78 = .ok (.aload_n 1, 1) := by decide +kernel
theorem kX7_file : h_ml mX7_file 2 := ⟨h_t6 15 rfl rfl, h_t1 15 rfl rfl, ⟨by decide, by decide, by decide +kernel⟩, by decide⟩
theorem lX7_145 : Cond.methodLink RX7 145 mX7_file.1 ∈ lw_g := h_t6 12 rfl rfl
theorem sX7_file : Cond.instanceMethod mX7_file.1 ∈ lw_g ∧ Cond.selects mX7_file.1.cls mX7_file.1 mX7_file.1 ∈ lw_g := ⟨h_t6 14 rfl rfl, h_ins 58 rfl⟩
theorem dX7_perform_79 : decode cX7_perform 79 = .ok (.invokevirtual 145, 3) := by decide +kernel
theorem dX7_perform_82 : decode cX7_perform 82 = .ok (.goto 90, 3) := by decide +kernel
theorem dX7_perform_85 : decode cX7_perform 85 = .ok (.aload_n 0, 1) := by decide +kernel
theorem dX7_perform_86 : decode cX7_perform 86 = .ok (.aload_n 0, 1) := by decide +kernel
theorem dX7_perform_87 : decode cX7_perform 87 = .ok (.aload_n 1, 1) := by decide +kernel
theorem dX7_perform_88 : decode cX7_perform 88 = .ok (.getfield 149, 3) := by decide +kernel
theorem dX7_perform_91 : decode cX7_perform 91 = .ok (.iconst 3, 1) := by decide +kernel
theorem dX7_perform_92 : decode cX7_perform 92 = .ok (.iaload, 1) := by decide +kernel
theorem kX7_boxOf : h_ml mX7_boxOf 1 := ⟨h_t6 32 rfl rfl, h_t1 15 rfl rfl, ⟨by decide, by decide, by decide +kernel⟩, by decide⟩
theorem lX7_152 : Cond.methodLink RX7 152 mX7_boxOf.1 ∈ lw_g := h_t6 29 rfl rfl
theorem sX7_boxOf : Cond.instanceMethod mX7_boxOf.1 ∈ lw_g ∧ Cond.selects mX7_boxOf.1.cls mX7_boxOf.1 mX7_boxOf.1 ∈ lw_g := ⟨h_t6 31 rfl rfl, h_ins 62 rfl⟩
theorem dX7_perform_93 : decode cX7_perform 93 = .ok (.invokevirtual 152, 3) := by decide +kernel
theorem dX7_perform_96 : decode cX7_perform 96 = .ok (.aload_n 1, 1) := by decide +kernel
theorem dX7_perform_97 : decode cX7_perform 97 = .ok (.invokevirtual 145, 3) := by decide +kernel
theorem dX7_perform_100 : decode cX7_perform 100 = .ok (.goto 72, 3) := by decide +kernel
theorem dX7_perform_103 : decode cX7_perform 103 = .ok (.aload_n 0, 1) := by decide +kernel
theorem dX7_perform_104 : decode cX7_perform 104 = .ok (.aload_n 1, 1) := by decide +kernel
theorem kX7_redirect : h_ml mX7_redirect 1 := ⟨h_t6 39 rfl rfl, h_t1 15 rfl rfl, ⟨by decide, by decide, by decide +kernel⟩, by decide⟩
theorem lX7_155 : Cond.methodLink RX7 155 mX7_redirect.1 ∈ lw_g := h_t6 36 rfl rfl
theorem sX7_redirect : Cond.instanceMethod mX7_redirect.1 ∈ lw_g ∧ Cond.selects mX7_redirect.1.cls mX7_redirect.1 mX7_redirect.1 ∈ lw_g := ⟨h_t6 38 rfl rfl, h_ins 63 rfl⟩
theorem dX7_perform_105 : decode cX7_perform 105 = .ok (.invokevirtual 155, 3) := by decide +kernel
theorem dX7_perform_108 : decode cX7_perform 108 = .ok (.goto 64, 3) := by decide +kernel
theorem dX7_perform_111 : decode cX7_perform 111 = .ok (.aload_n 0, 1) := by decide +kernel
theorem dX7_perform_112 : decode cX7_perform 112 = .ok (.aload_n 1, 1) := by decide +kernel
theorem kX7_rejectMessage : h_ml mX7_rejectMessage 1 := ⟨h_t6 43 rfl rfl, h_t1 15 rfl rfl, ⟨by decide, by decide, by decide +kernel⟩, by decide⟩
theorem lX7_158 : Cond.methodLink RX7 158 mX7_rejectMessage.1 ∈ lw_g := h_t6 40 rfl rfl
theorem sX7_rejectMessage : Cond.instanceMethod mX7_rejectMessage.1 ∈ lw_g ∧ Cond.selects mX7_rejectMessage.1.cls mX7_rejectMessage.1 mX7_rejectMessage.1 ∈ lw_g := ⟨h_t6 42 rfl rfl, h_ins 64 rfl⟩
theorem dX7_perform_113 : decode cX7_perform 113 = .ok (.invokevirtual 158, 3) := by decide +kernel
theorem dX7_perform_116 : decode cX7_perform 116 = .ok (.goto 56, 3) := by decide +kernel
theorem dX7_perform_127 : decode cX7_perform 127 = .ok (.aload_n 0, 1) := by decide +kernel
theorem dX7_perform_128 : decode cX7_perform 128 = .ok (.aload_n 1, 1) := by decide +kernel
theorem dX7_perform_129 : decode cX7_perform 129 = .ok (.getfield 164, 3) := by decide +kernel
theorem dX7_perform_132 : decode cX7_perform 132 = .ok (.putfield 84, 3) := by decide +kernel
theorem dX7_perform_135 : decode cX7_perform 135 = .ok (.goto 37, 3) := by decide +kernel
theorem dX7_perform_138 : decode cX7_perform 138 = .ok (.aload_n 0, 1) := by decide +kernel
theorem dX7_perform_139 : decode cX7_perform 139 = .ok (.dup, 1) := by decide +kernel
theorem dX7_perform_140 : decode cX7_perform 140 = .ok (.getfield 84, 3) := by decide +kernel
theorem dX7_perform_143 : decode cX7_perform 143 = .ok (.aload_n 1, 1) := by decide +kernel
theorem dX7_perform_144 : decode cX7_perform 144 = .ok (.getfield 164, 3) := by decide +kernel
theorem dX7_perform_147 : decode cX7_perform 147 = .ok (.ior, 1) := by decide +kernel
theorem dX7_perform_148 : decode cX7_perform 148 = .ok (.putfield 84, 3) := by decide +kernel
theorem dX7_perform_151 : decode cX7_perform 151 = .ok (.goto 21, 3) := by decide +kernel
theorem dX7_perform_154 : decode cX7_perform 154 = .ok (.aload_n 0, 1) := by decide +kernel
theorem dX7_perform_155 : decode cX7_perform 155 = .ok (.dup, 1) := by decide +kernel
theorem dX7_perform_156 : decode cX7_perform 156 = .ok (.getfield 84, 3) := by decide +kernel
theorem dX7_perform_159 : decode cX7_perform 159 = .ok (.aload_n 1, 1) := by decide +kernel
theorem dX7_perform_160 : decode cX7_perform 160 = .ok (.getfield 164, 3) := by decide +kernel
theorem dX7_perform_163 : decode cX7_perform 163 = .ok (.iconst (-1), 1) := by decide +kernel
theorem dX7_perform_164 : decode cX7_perform 164 = .ok (.ixor, 1) := by decide +kernel
theorem dX7_perform_165 : decode cX7_perform 165 = .ok (.iand, 1) := by decide +kernel
theorem dX7_perform_166 : decode cX7_perform 166 = .ok (.putfield 84, 3) := by decide +kernel
theorem dX7_perform_169 : decode cX7_perform 169 = .ok (.goto 3, 3) := by decide +kernel
theorem dX7_perform_119 : decode cX7_perform 119 = .ok (.aload_n 0, 1) := by decide +kernel
theorem dX7_perform_120 : decode cX7_perform 120 = .ok (.aload_n 1, 1) := by decide +kernel
theorem kX7_goAway : h_ml mX7_goAway 1 := ⟨h_t6 47 rfl rfl, h_t1 15 rfl rfl, ⟨by decide, by decide, by decide +kernel⟩, by decide⟩
theorem lX7_161 : Cond.methodLink RX7 161 mX7_goAway.1 ∈ lw_g := h_t6 44 rfl rfl
theorem sX7_goAway : Cond.instanceMethod mX7_goAway.1 ∈ lw_g ∧ Cond.selects mX7_goAway.1.cls mX7_goAway.1 mX7_goAway.1 ∈ lw_g := ⟨h_t6 46 rfl rfl, h_ins 65 rfl⟩
theorem dX7_perform_121 : decode cX7_perform 121 = .ok (.invokevirtual 161, 3) := by decide +kernel
theorem dX7_perform_124 : decode cX7_perform 124 = .ok (.goto 48, 3) := by decide +kernel
def fn_X7_perform (k1 : Nat) (s : uS) : Option uS := if (s.I k1 0) = 1 then (some (wI s 1070 17 1)) else (if (s.I k1 0) = 2 then (some (wI s 1070 14 0)) else (if (s.I k1 0) = 3 then ((fn_X7_file 0 k1 s).bind fun s1 => some s1) else (if (s.I k1 0) = 4 then ((iget 20 s (k1 + 1) 3).bind fun v3 => (fn_X7_boxOf v3 s).bind fun r5 => (fn_X7_file r5.2 k1 r5.1).bind fun s7 => some s7) else (if (s.I k1 0) = 5 then ((fn_X7_redirect k1 s).bind fun s9 => some s9) else (if (s.I k1 0) = 6 then ((fn_X7_rejectMessage k1 s).bind fun s11 => some s11) else (if (s.I k1 0) = 7 then (some (wI s 1070 13 (s.I k1 11))) else (if (s.I k1 0) = 8 then (some (wI s 1070 13 ((s.I 1070 13) ||| (s.I k1 11)))) else (if (s.I k1 0) = 9 then (some (wI s 1070 13 ((s.I 1070 13) &&& ((s.I k1 11) ^^^ (-1))))) else (if (s.I k1 0) = 10 then ((fn_X7_goAway k1 s).bind fun s13 => some s13) else (some s))))))))))
set_option maxRecDepth 100000 in
set_option maxHeartbeats 4000000 in
theorem xc_X7_perform {l : Launch} {D : va_G} {A : Nat → ClassId} {B : Nat} {Z : State → Heap → Prop} {vF : Value} (uk : uK B Z vF) {k1 : Nat} {s : uS} {r : uS} (hk1 : uSo k1 3) (h : fn_X7_perform k1 s = some r) : CU l D A B Z 6 mX7_perform s [.ref (B + 1070), .ref (B + k1)] (r, none) := by
  unfold fn_X7_perform at h
  refine cu_of rfl uk.1.1 (Nat.le_of_ble_eq_true rfl) ?_
  show GU _ _ _ _ _ _ _ _ _ 0 [(0, .ref (B + 1070)), (1, .ref (B + k1))] []
  refine uu_aload_n dX7_perform_0 rfl (List.mem_of_getElem? (i := 1) rfl) ?_
  refine uu_geti (ci := 3) (N := 15) fX7_116 (by decide) hk1.is (by decide) (by decide) dX7_perform_1 ?_
  by_cases c4_0 : (s.I k1 0) = 1
  · replace h := uu_pos c4_0 h
    refine uu_tabE (tgt := 60) (off := 56) (v := 1) dX7_perform_4 c4_0 (by decide) (by decide) rfl (by decide) ?_
    refine uu_aload_n dX7_perform_60 rfl (List.mem_of_getElem? (i := 0) rfl) ?_
    refine uu_iconst (v := 1) dX7_perform_61 (by decide) ?_
    refine uu_puti (ft := .boolean) (ci := 7) (N := 20) fX7_53 ptX7 (Or.inl rfl) (by decide) so_1070.is (by decide) (by decide) (by decide +kernel) rfl rfl dX7_perform_62 ?_
    refine uu_goto (tgt := 172) dX7_perform_65 (by decide) ?_
    have hr := Option.some.inj h
    subst hr
    exact uu_vret rfl dX7_perform_172
  replace h := uu_neg c4_0 h
  by_cases c4_1 : (s.I k1 0) = 2
  · replace h := uu_pos c4_1 h
    refine uu_tabE (tgt := 68) (off := 64) (v := 2) dX7_perform_4 c4_1 (by decide) (by decide) rfl (by decide) ?_
    refine uu_aload_n dX7_perform_68 rfl (List.mem_of_getElem? (i := 0) rfl) ?_
    refine uu_iconst (v := 0) dX7_perform_69 (by decide) ?_
    refine uu_puti (ft := .boolean) (ci := 7) (N := 20) fX7_81 ptX7 (Or.inl rfl) (by decide) so_1070.is (by decide) (by decide) (by decide +kernel) rfl rfl dX7_perform_70 ?_
    refine uu_goto (tgt := 172) dX7_perform_73 (by decide) ?_
    have hr := Option.some.inj h
    subst hr
    exact uu_vret rfl dX7_perform_172
  replace h := uu_neg c4_1 h
  by_cases c4_2 : (s.I k1 0) = 3
  · replace h := uu_pos c4_2 h
    refine uu_tabE (tgt := 76) (off := 72) (v := 3) dX7_perform_4 c4_2 (by decide) (by decide) rfl (by decide) ?_
    refine uu_aload_n dX7_perform_76 rfl (List.mem_of_getElem? (i := 0) rfl) ?_
    refine uu_iconst (v := 0) dX7_perform_77 (by decide) ?_
    refine uu_aload_n dX7_perform_78 rfl (List.mem_of_getElem? (i := 1) rfl) ?_
    obtain ⟨s1, e2, h⟩ := uu_ob h
    refine uu_cv (d1 := 2) (k := 1070) (ci := 7) (T := TX7) (N := 20) (As := [.int 0, .ref (B + k1)]) (st := []) (st' := []) (xc_X7_file uk hk1 e2) so_1070.is (by decide) rfl kX7_file lX7_145 sX7_file (by decide) (Nat.le_of_ble_eq_true rfl) dX7_perform_79 rfl ?_
    refine uu_goto (tgt := 172) dX7_perform_82 (by decide) ?_
    have hr := Option.some.inj h
    subst hr
    exact uu_vret rfl dX7_perform_172
  replace h := uu_neg c4_2 h
  by_cases c4_3 : (s.I k1 0) = 4
  · replace h := uu_pos c4_3 h
    refine uu_tabE (tgt := 85) (off := 81) (v := 4) dX7_perform_4 c4_3 (by decide) (by decide) rfl (by decide) ?_
    refine uu_aload_n dX7_perform_85 rfl (List.mem_of_getElem? (i := 0) rfl) ?_
    refine uu_aload_n dX7_perform_86 rfl (List.mem_of_getElem? (i := 0) rfl) ?_
    refine uu_aload_n dX7_perform_87 rfl (List.mem_of_getElem? (i := 1) rfl) ?_
    refine uu_getc (ci := 3) (N := 15) fX7_149 (by decide) hk1.is (by decide) (c := 1) (by decide) (k2 := k1 + 1) rfl dX7_perform_88 ?_
    refine uu_iconst (v := 3) dX7_perform_91 (by decide) ?_
    obtain ⟨v3, e4, h⟩ := uu_ob h
    refine uu_iald e4 dX7_perform_92 ?_
    obtain ⟨r5, e6, h⟩ := uu_ob h
    refine uu_cv (d1 := 5) (k := 1070) (ci := 7) (T := TX7) (N := 20) (As := [.int v3]) (st := [.ref (B + 1070)]) (st' := [.int r5.2, .ref (B + 1070)]) (xc_X7_boxOf uk  e6) so_1070.is (by decide) rfl kX7_boxOf lX7_152 sX7_boxOf (by decide) (Nat.le_of_ble_eq_true rfl) dX7_perform_93 rfl ?_
    refine uu_aload_n dX7_perform_96 rfl (List.mem_of_getElem? (i := 1) rfl) ?_
    obtain ⟨s7, e8, h⟩ := uu_ob h
    refine uu_cv (d1 := 2) (k := 1070) (ci := 7) (T := TX7) (N := 20) (As := [.int r5.2, .ref (B + k1)]) (st := []) (st' := []) (xc_X7_file uk hk1 e8) so_1070.is (by decide) rfl kX7_file lX7_145 sX7_file (by decide) (Nat.le_of_ble_eq_true rfl) dX7_perform_97 rfl ?_
    refine uu_goto (tgt := 172) dX7_perform_100 (by decide) ?_
    have hr := Option.some.inj h
    subst hr
    exact uu_vret rfl dX7_perform_172
  replace h := uu_neg c4_3 h
  by_cases c4_4 : (s.I k1 0) = 5
  · replace h := uu_pos c4_4 h
    refine uu_tabE (tgt := 103) (off := 99) (v := 5) dX7_perform_4 c4_4 (by decide) (by decide) rfl (by decide) ?_
    refine uu_aload_n dX7_perform_103 rfl (List.mem_of_getElem? (i := 0) rfl) ?_
    refine uu_aload_n dX7_perform_104 rfl (List.mem_of_getElem? (i := 1) rfl) ?_
    obtain ⟨s9, e10, h⟩ := uu_ob h
    refine uu_cv (d1 := 2) (k := 1070) (ci := 7) (T := TX7) (N := 20) (As := [.ref (B + k1)]) (st := []) (st' := []) (xc_X7_redirect uk hk1 e10) so_1070.is (by decide) rfl kX7_redirect lX7_155 sX7_redirect (by decide) (Nat.le_of_ble_eq_true rfl) dX7_perform_105 rfl ?_
    refine uu_goto (tgt := 172) dX7_perform_108 (by decide) ?_
    have hr := Option.some.inj h
    subst hr
    exact uu_vret rfl dX7_perform_172
  replace h := uu_neg c4_4 h
  by_cases c4_5 : (s.I k1 0) = 6
  · replace h := uu_pos c4_5 h
    refine uu_tabE (tgt := 111) (off := 107) (v := 6) dX7_perform_4 c4_5 (by decide) (by decide) rfl (by decide) ?_
    refine uu_aload_n dX7_perform_111 rfl (List.mem_of_getElem? (i := 0) rfl) ?_
    refine uu_aload_n dX7_perform_112 rfl (List.mem_of_getElem? (i := 1) rfl) ?_
    obtain ⟨s11, e12, h⟩ := uu_ob h
    refine uu_cv (d1 := 1) (k := 1070) (ci := 7) (T := TX7) (N := 20) (As := [.ref (B + k1)]) (st := []) (st' := []) (xc_X7_rejectMessage uk hk1 e12) so_1070.is (by decide) rfl kX7_rejectMessage lX7_158 sX7_rejectMessage (by decide) (Nat.le_of_ble_eq_true rfl) dX7_perform_113 rfl ?_
    refine uu_goto (tgt := 172) dX7_perform_116 (by decide) ?_
    have hr := Option.some.inj h
    subst hr
    exact uu_vret rfl dX7_perform_172
  replace h := uu_neg c4_5 h
  by_cases c4_6 : (s.I k1 0) = 7
  · replace h := uu_pos c4_6 h
    refine uu_tabE (tgt := 127) (off := 123) (v := 7) dX7_perform_4 c4_6 (by decide) (by decide) rfl (by decide) ?_
    refine uu_aload_n dX7_perform_127 rfl (List.mem_of_getElem? (i := 0) rfl) ?_
    refine uu_aload_n dX7_perform_128 rfl (List.mem_of_getElem? (i := 1) rfl) ?_
    refine uu_geti (ci := 3) (N := 15) fX7_164 (by decide) hk1.is (by decide) (by decide) dX7_perform_129 ?_
    refine uu_puti (ft := .int) (ci := 7) (N := 20) fX7_84 ptX7 (Or.inl rfl) (by decide) so_1070.is (by decide) (by decide) (by decide +kernel) rfl rfl dX7_perform_132 ?_
    refine uu_goto (tgt := 172) dX7_perform_135 (by decide) ?_
    have hr := Option.some.inj h
    subst hr
    exact uu_vret rfl dX7_perform_172
  replace h := uu_neg c4_6 h
  by_cases c4_7 : (s.I k1 0) = 8
  · replace h := uu_pos c4_7 h
    refine uu_tabE (tgt := 138) (off := 134) (v := 8) dX7_perform_4 c4_7 (by decide) (by decide) rfl (by decide) ?_
    refine uu_aload_n dX7_perform_138 rfl (List.mem_of_getElem? (i := 0) rfl) ?_
    refine uu_dup dX7_perform_139 rfl ?_
    refine uu_geti (ci := 7) (N := 20) fX7_84 (by decide) so_1070.is (by decide) (by decide) dX7_perform_140 ?_
    refine uu_aload_n dX7_perform_143 rfl (List.mem_of_getElem? (i := 1) rfl) ?_
    refine uu_geti (ci := 3) (N := 15) fX7_164 (by decide) hk1.is (by decide) (by decide) dX7_perform_144 ?_
    refine uu_ior dX7_perform_147 ?_
    refine uu_puti (ft := .int) (ci := 7) (N := 20) fX7_84 ptX7 (Or.inl rfl) (by decide) so_1070.is (by decide) (by decide) (by decide +kernel) rfl rfl dX7_perform_148 ?_
    refine uu_goto (tgt := 172) dX7_perform_151 (by decide) ?_
    have hr := Option.some.inj h
    subst hr
    exact uu_vret rfl dX7_perform_172
  replace h := uu_neg c4_7 h
  by_cases c4_8 : (s.I k1 0) = 9
  · replace h := uu_pos c4_8 h
    refine uu_tabE (tgt := 154) (off := 150) (v := 9) dX7_perform_4 c4_8 (by decide) (by decide) rfl (by decide) ?_
    refine uu_aload_n dX7_perform_154 rfl (List.mem_of_getElem? (i := 0) rfl) ?_
    refine uu_dup dX7_perform_155 rfl ?_
    refine uu_geti (ci := 7) (N := 20) fX7_84 (by decide) so_1070.is (by decide) (by decide) dX7_perform_156 ?_
    refine uu_aload_n dX7_perform_159 rfl (List.mem_of_getElem? (i := 1) rfl) ?_
    refine uu_geti (ci := 3) (N := 15) fX7_164 (by decide) hk1.is (by decide) (by decide) dX7_perform_160 ?_
    refine uu_iconst (v := -1) dX7_perform_163 (by decide) ?_
    refine uu_ixor dX7_perform_164 ?_
    refine uu_iand dX7_perform_165 ?_
    refine uu_puti (ft := .int) (ci := 7) (N := 20) fX7_84 ptX7 (Or.inl rfl) (by decide) so_1070.is (by decide) (by decide) (by decide +kernel) rfl rfl dX7_perform_166 ?_
    refine uu_goto (tgt := 172) dX7_perform_169 (by decide) ?_
    have hr := Option.some.inj h
    subst hr
    exact uu_vret rfl dX7_perform_172
  replace h := uu_neg c4_8 h
  by_cases c4_9 : (s.I k1 0) = 10
  · replace h := uu_pos c4_9 h
    refine uu_tabE (tgt := 119) (off := 115) (v := 10) dX7_perform_4 c4_9 (by decide) (by decide) rfl (by decide) ?_
    refine uu_aload_n dX7_perform_119 rfl (List.mem_of_getElem? (i := 0) rfl) ?_
    refine uu_aload_n dX7_perform_120 rfl (List.mem_of_getElem? (i := 1) rfl) ?_
    obtain ⟨s13, e14, h⟩ := uu_ob h
    refine uu_cv (d1 := 1) (k := 1070) (ci := 7) (T := TX7) (N := 20) (As := [.ref (B + k1)]) (st := []) (st' := []) (xc_X7_goAway uk hk1 e14) so_1070.is (by decide) rfl kX7_goAway lX7_161 sX7_goAway (by decide) (Nat.le_of_ble_eq_true rfl) dX7_perform_121 rfl ?_
    refine uu_goto (tgt := 172) dX7_perform_124 (by decide) ?_
    have hr := Option.some.inj h
    subst hr
    exact uu_vret rfl dX7_perform_172
  replace h := uu_neg c4_9 h
  have cx4 : (s.I k1 0).toInt < 1 ∨ 10 < (s.I k1 0).toInt := by
    refine Decidable.byContradiction fun q => ?_
    rcases (show (s.I k1 0).toInt = 1 ∨ (s.I k1 0).toInt = 2 ∨ (s.I k1 0).toInt = 3 ∨ (s.I k1 0).toInt = 4 ∨ (s.I k1 0).toInt = 5 ∨ (s.I k1 0).toInt = 6 ∨ (s.I k1 0).toInt = 7 ∨ (s.I k1 0).toInt = 8 ∨ (s.I k1 0).toInt = 9 ∨ (s.I k1 0).toInt = 10 by omega) with q | q | q | q | q | q | q | q | q | q
    · exact c4_0 (sw_eq q (by decide))
    · exact c4_1 (sw_eq q (by decide))
    · exact c4_2 (sw_eq q (by decide))
    · exact c4_3 (sw_eq q (by decide))
    · exact c4_4 (sw_eq q (by decide))
    · exact c4_5 (sw_eq q (by decide))
    · exact c4_6 (sw_eq q (by decide))
    · exact c4_7 (sw_eq q (by decide))
    · exact c4_8 (sw_eq q (by decide))
    · exact c4_9 (sw_eq q (by decide))
  refine uu_tableOut (tgt := 172) dX7_perform_4 cx4 (by decide) ?_
  have hr := Option.some.inj h
  subst hr
  exact uu_vret rfl dX7_perform_172
def fb_X9_putText_2 (K2 : Nat → List Nat → Int32 → uS → Option uS) (k0 : Nat) (w1 : List Nat) (x2 : Int32) (s : uS) : Option uS := if (nI w1.length) ≤ x2 then (some s) else ((stget w1 x2).bind fun v2 => (fn_X9_put k0 v2 s).bind fun s4 => K2 k0 w1 (x2 + 1) s4)
set_option maxRecDepth 100000 in
set_option maxHeartbeats 4000000 in
theorem xb_X9_putText_2 {l : Launch} {D : va_G} {A : Nat → ClassId} {B : Nat} {Z : State → Heap → Prop} {vF : Value} (uk : uK B Z vF) {K2 : Nat → List Nat → Int32 → uS → Option uS} (hK2 : ∀ (k0 : Nat) (w1 : List Nat) (x2 : Int32) (hk0 : uSo k0 9) {qw1 pw1 : Nat} (hw1 : uStr B Z qw1 pw1 w1) (s : uS) (r : uS), K2 k0 w1 x2 s = some r → GU l D A B Z mX9_putText 4 (r, none) s 2 [(0, .ref (B + k0)), (1, .ref qw1), (2, .int x2)] []) {k0 : Nat} {w1 : List Nat} {x2 : Int32} {s : uS} {r : uS} (hk0 : uSo k0 9) {qw1 pw1 : Nat} (hw1 : uStr B Z qw1 pw1 w1) (h : fb_X9_putText_2 K2 k0 w1 x2 s = some r) : GU l D A B Z mX9_putText 4 (r, none) s 2 [(0, .ref (B + k0)), (1, .ref qw1), (2, .int x2)] [] := by
  unfold fb_X9_putText_2 at h
  refine uu_iload_n dX9_putText_2 rfl (List.mem_of_getElem? (i := 2) rfl) ?_
  refine uu_aload_n dX9_putText_3 rfl (List.mem_of_getElem? (i := 1) rfl) ?_
  refine uu_slen uk hw1 lX9_30 (by decide) (Nat.le_of_ble_eq_true rfl) dX9_putText_4 ?_
  refine uu_icmp_ge (tgt := 25) dX9_putText_7 (by decide) (fun c1 => ?_) (fun c1 => ?_)
  · replace h := uu_pos c1 h
    have hr := Option.some.inj h
    subst hr
    exact uu_vret rfl dX9_putText_25
  · replace h := uu_neg c1 h
    refine uu_aload_n dX9_putText_10 rfl (List.mem_of_getElem? (i := 0) rfl) ?_
    refine uu_aload_n dX9_putText_11 rfl (List.mem_of_getElem? (i := 1) rfl) ?_
    refine uu_iload_n dX9_putText_12 rfl (List.mem_of_getElem? (i := 2) rfl) ?_
    obtain ⟨v2, e3, h⟩ := uu_ob h
    refine uu_sch uk hw1 e3 lX9_36 (by decide) (Nat.le_of_ble_eq_true rfl) dX9_putText_13 ?_
    obtain ⟨s4, e5, h⟩ := uu_ob h
    refine uu_cv (d1 := 0) (k := k0) (ci := 9) (T := TX9) (N := 6) (As := [.int v2]) (st := []) (st' := []) (xc_X9_put uk hk0 e5) hk0.is (by decide) rfl kX9_put lX9_40 sX9_put (by decide) (Nat.le_of_ble_eq_true rfl) dX9_putText_16 rfl ?_
    refine uu_iinc (v := x2 + 1) dX9_putText_19 (k := 2) rfl rfl (by decide) rfl ?_
    refine uu_goto (tgt := 2) dX9_putText_22 (by decide) ?_
    refine uu_lv [1, 2, 0] (lv' := [(0, .ref (B + k0)), (1, .ref qw1), (2, .int (x2 + 1))]) rfl ?_
    exact hK2 k0 w1 (x2 + 1) hk0 hw1 _ _ h
def fn_X9_putText_2  : Nat → Nat → List Nat → Int32 → uS → Option uS
  | 0 => fun _ _ _ _ => none
  | n + 1 => fb_X9_putText_2 (fn_X9_putText_2  n)
set_option maxRecDepth 100000 in
set_option maxHeartbeats 4000000 in
theorem xn_X9_putText_2 {l : Launch} {D : va_G} {A : Nat → ClassId} {B : Nat} {Z : State → Heap → Prop} {vF : Value} (uk : uK B Z vF)   : ∀ (n : Nat) (k0 : Nat) (w1 : List Nat) (x2 : Int32) (hk0 : uSo k0 9) {qw1 pw1 : Nat} (hw1 : uStr B Z qw1 pw1 w1) (s : uS) (r : uS), fn_X9_putText_2  n k0 w1 x2 s = some r → GU l D A B Z mX9_putText 4 (r, none) s 2 [(0, .ref (B + k0)), (1, .ref qw1), (2, .int x2)] [] := by
  intro n
  induction n with
  | zero => intro k0 w1 x2 hk0 qw1 pw1 hw1 s r h
            cases h
  | succ n ih => intro k0 w1 x2 hk0 qw1 pw1 hw1 s r h
                 exact xb_X9_putText_2 uk ih hk0 hw1 h
def fn_X9_putText (k0 : Nat) (w1 : List Nat) (s : uS) : Option uS := fn_X9_putText_2 uFu k0 w1 0 s
set_option maxRecDepth 100000 in
set_option maxHeartbeats 4000000 in
theorem xc_X9_putText {l : Launch} {D : va_G} {A : Nat → ClassId} {B : Nat} {Z : State → Heap → Prop} {vF : Value} (uk : uK B Z vF) {k0 : Nat} {w1 : List Nat} {s : uS} {r : uS} (hk0 : uSo k0 9) {qw1 pw1 : Nat} (hw1 : uStr B Z qw1 pw1 w1) (h : fn_X9_putText k0 w1 s = some r) : CU l D A B Z 4 mX9_putText s [.ref (B + k0), .ref qw1] (r, none) := by
  unfold fn_X9_putText at h
  refine cu_of rfl uk.1.1 (Nat.le_of_ble_eq_true rfl) ?_
  show GU _ _ _ _ _ _ _ _ _ 0 [(0, .ref (B + k0)), (1, .ref qw1)] []
  refine uu_iconst (v := 0) dX9_putText_0 (by decide) ?_
  refine uu_istore_n dX9_putText_1 rfl (by decide) rfl ?_
  refine uu_lv [1, 2, 0] (lv' := [(0, .ref (B + k0)), (1, .ref qw1), (2, .int 0)]) rfl ?_
  exact xn_X9_putText_2 uk  _ _ _ _ hk0 hw1 _ _ h
abbrev mX7_daysOf : hM := (yX7_daysOf, cX7_daysOf, 2, (some (.int)))
theorem dX7_daysOf_0 : decode cX7_daysOf 0 = .ok (.iconst 1, 1) := by decide +kernel
theorem dX7_daysOf_1 : decode cX7_daysOf 1 = .ok (.bipush 30, 2) := by decide +kernel
theorem dX7_daysOf_3 : decode cX7_daysOf 3 = .ok (.aload_n 0, 1) := by decide +kernel
theorem fX7_252 : h_fl RX7 252 3 10 RX3 TX3 15 := ⟨rfl, by decide, inX3, h_t1 177 rfl rfl⟩
theorem dX7_daysOf_4 : decode cX7_daysOf 4 = .ok (.getfield 252, 3) := by decide +kernel
theorem lX7_255 : Cond.methodLink RX7 255 Lib.Math.min.name ∈ lw_g := h_t6 108 rfl rfl
theorem dX7_daysOf_7 : decode cX7_daysOf 7 = .ok (.invokestatic 255, 3) := by decide +kernel
theorem dX7_daysOf_10 : decode cX7_daysOf 10 = .ok (.invokestatic 139, 3) := by decide +kernel
theorem dX7_daysOf_13 : decode cX7_daysOf 13 = .ok (.istore_n 1, 1) := by decide +kernel
theorem dX7_daysOf_14 : decode cX7_daysOf 14 = .ok (.aload_n 0, 1) := by decide +kernel
theorem dX7_daysOf_15 : decode cX7_daysOf 15 = .ok (.bipush 32, 2) := by decide +kernel
theorem dX7_daysOf_17 : decode cX7_daysOf 17 = .ok (.invokevirtual 168, 3) := by decide +kernel
theorem dX7_daysOf_20 : decode cX7_daysOf 20 = .ok (.ifCond .eq 7, 3) := by decide +kernel
theorem dX7_daysOf_27 : decode cX7_daysOf 27 = .ok (.bipush 7, 2) := by decide +kernel
theorem dX7_daysOf_29 : decode cX7_daysOf 29 = .ok (.ireturn, 1) := by decide +kernel
theorem dX7_daysOf_23 : decode cX7_daysOf 23 = .ok (.iload_n 1, 1) := by decide +kernel
theorem dX7_daysOf_24 : decode cX7_daysOf 24 = .ok (.goto 5, 3) := by decide +kernel
def fn_X7_daysOf (k0 : Nat) (s : uS) : Option Int32 := (fn_X3_has k0 32 s).bind fun v1 => if v1 = true then (some (if (1 : Int32) < (if (s.I k0 10) < (30 : Int32) then (s.I k0 10) else (30 : Int32)) then (if (s.I k0 10) < (30 : Int32) then (s.I k0 10) else (30 : Int32)) else (1 : Int32))) else (some (7 : Int32))
set_option maxRecDepth 100000 in
set_option maxHeartbeats 4000000 in
theorem xc_X7_daysOf {l : Launch} {D : va_G} {A : Nat → ClassId} {B : Nat} {Z : State → Heap → Prop} {vF : Value} (uk : uK B Z vF) {k0 : Nat} {s : uS} {r : Int32} (hk0 : uSo k0 3) (h : fn_X7_daysOf k0 s = some r) : CU l D A B Z 1 mX7_daysOf s [.ref (B + k0)] (s, some (.int r)) := by
  unfold fn_X7_daysOf at h
  refine cu_of rfl uk.1.1 (Nat.le_of_ble_eq_true rfl) ?_
  show GU _ _ _ _ _ _ _ _ _ 0 [(0, .ref (B + k0))] []
  refine uu_iconst (v := 1) dX7_daysOf_0 (by decide) ?_
  refine uu_bipush (v := 30) dX7_daysOf_1 (by decide) ?_
  refine uu_aload_n dX7_daysOf_3 rfl (List.mem_of_getElem? (i := 0) rfl) ?_
  refine uu_geti (ci := 3) (N := 15) fX7_252 (by decide) hk0.is (by decide) (by decide) dX7_daysOf_4 ?_
  refine uu_mmin lX7_255 (by decide) (Nat.le_of_ble_eq_true rfl) dX7_daysOf_7 ?_
  refine uu_mmax lX7_139 (by decide) (Nat.le_of_ble_eq_true rfl) dX7_daysOf_10 ?_
  refine uu_istore_n dX7_daysOf_13 rfl (by decide) rfl ?_
  refine uu_aload_n dX7_daysOf_14 rfl (List.mem_of_getElem? (i := 1) rfl) ?_
  refine uu_bipush (v := 32) dX7_daysOf_15 (by decide) ?_
  obtain ⟨v1, e2, h⟩ := uu_ob h
  refine uu_cv (d1 := 0) (k := k0) (ci := 3) (T := TX3) (N := 15) (As := [.int 32]) (st := []) (st' := [.int (bI v1)]) (xc_X3_has uk hk0 e2) hk0.is (by decide) rfl kX3_has lX7_168 sX3_has (by decide) (Nat.le_of_ble_eq_true rfl) dX7_daysOf_17 rfl ?_
  refine uu_ifb_eq (tgt := 27) dX7_daysOf_20 (by decide) (fun c3 => ?_) (fun c3 => ?_)
  · replace h := uu_neg c3 h
    refine uu_bipush (v := 7) dX7_daysOf_27 (by decide) ?_
    have hr := Option.some.inj h
    subst hr
    exact uu_iret rfl dX7_daysOf_29
  · replace h := uu_pos c3 h
    refine uu_iload_n dX7_daysOf_23 rfl (List.mem_of_getElem? (i := 0) rfl) ?_
    refine uu_goto (tgt := 29) dX7_daysOf_24 (by decide) ?_
    have hr := Option.some.inj h
    subst hr
    exact uu_iret rfl dX7_daysOf_29
theorem dX8_reset_0 : decode cX8_reset 0 = .ok (.aload_n 0, 1) := by decide +kernel
theorem dX8_reset_1 : decode cX8_reset 1 = .ok (.getfield 14, 3) := by decide +kernel
theorem lX8_26 : Cond.methodLink RX8 26 mX9_clear.1 ∈ lw_g := h_t6 128 rfl rfl
theorem dX8_reset_4 : decode cX8_reset 4 = .ok (.invokevirtual 26, 3) := by decide +kernel
theorem dX8_reset_7 : decode cX8_reset 7 = .ok (.aload_n 0, 1) := by decide +kernel
theorem dX8_reset_8 : decode cX8_reset 8 = .ok (.iconst 0, 1) := by decide +kernel
theorem fX8_29 : h_fl RX8 29 8 4 RX8 TX8 8 := ⟨rfl, by decide, inX8, h_t2 42 rfl rfl⟩
theorem dX8_reset_9 : decode cX8_reset 9 = .ok (.putfield 29, 3) := by decide +kernel
theorem dX8_reset_12 : decode cX8_reset 12 = .ok (.aload_n 0, 1) := by decide +kernel
theorem dX8_reset_13 : decode cX8_reset 13 = .ok (.iconst 0, 1) := by decide +kernel
theorem fX8_33 : h_fl RX8 33 8 5 RX8 TX8 8 := ⟨rfl, by decide, inX8, h_t2 43 rfl rfl⟩
theorem dX8_reset_14 : decode cX8_reset 14 = .ok (.putfield 33, 3) := by decide +kernel
theorem dX8_reset_17 : decode cX8_reset 17 = .ok (.return_, 1) := by decide +kernel
def fn_X8_reset (k0 : Nat) (s : uS) : Option uS := (fn_X9_clear (k0 + 1) s).bind fun s1 => some (wI (wI s1 k0 4 0) k0 5 0)
set_option maxRecDepth 100000 in
set_option maxHeartbeats 4000000 in
theorem xc_X8_reset {l : Launch} {D : va_G} {A : Nat → ClassId} {B : Nat} {Z : State → Heap → Prop} {vF : Value} (uk : uK B Z vF) {k0 : Nat} {s : uS} {r : uS} (hk0 : uSo k0 8) (h : fn_X8_reset k0 s = some r) : CU l D A B Z 1 mX8_reset s [.ref (B + k0)] (r, none) := by
  unfold fn_X8_reset at h
  refine cu_of rfl uk.1.1 (Nat.le_of_ble_eq_true rfl) ?_
  show GU _ _ _ _ _ _ _ _ _ 0 [(0, .ref (B + k0))] []
  refine uu_aload_n dX8_reset_0 rfl (List.mem_of_getElem? (i := 0) rfl) ?_
  refine uu_getc (ci := 8) (N := 8) fX8_14 (by decide) hk0.is (by decide) (c := 1) (by decide) (k2 := k0 + 1) rfl dX8_reset_1 ?_
  obtain ⟨s1, e2, h⟩ := uu_ob h
  refine uu_cv (d1 := 0) (k := k0 + 1) (ci := 9) (T := TX9) (N := 6) (As := []) (st := []) (st' := []) (xc_X9_clear uk (so_parts hk0) e2) (so_parts hk0).is (by decide) rfl kX9_clear lX8_26 sX9_clear (by decide) (Nat.le_of_ble_eq_true rfl) dX8_reset_4 rfl ?_
  refine uu_aload_n dX8_reset_7 rfl (List.mem_of_getElem? (i := 0) rfl) ?_
  refine uu_iconst (v := 0) dX8_reset_8 (by decide) ?_
  refine uu_puti (ft := .int) (ci := 8) (N := 8) fX8_29 ptX8 (Or.inl rfl) (by decide) hk0.is (by decide) (by decide) (by decide +kernel) rfl rfl dX8_reset_9 ?_
  refine uu_aload_n dX8_reset_12 rfl (List.mem_of_getElem? (i := 0) rfl) ?_
  refine uu_iconst (v := 0) dX8_reset_13 (by decide) ?_
  refine uu_puti (ft := .int) (ci := 8) (N := 8) fX8_33 ptX8 (Or.inl rfl) (by decide) hk0.is (by decide) (by decide) (by decide +kernel) rfl rfl dX8_reset_14 ?_
  have hr := Option.some.inj h
  subst hr
  exact uu_vret rfl dX8_reset_17
abbrev mX8_go : hM := (yX8_go, cX8_go, 2, (some (.int)))
theorem dX8_go_0 : decode cX8_go 0 = .ok (.aload_n 0, 1) := by decide +kernel
theorem dX8_go_1 : decode cX8_go 1 = .ok (.iload_n 1, 1) := by decide +kernel
theorem dX8_go_2 : decode cX8_go 2 = .ok (.putfield 33, 3) := by decide +kernel
theorem dX8_go_5 : decode cX8_go 5 = .ok (.iconst 0, 1) := by decide +kernel
theorem dX8_go_6 : decode cX8_go 6 = .ok (.ireturn, 1) := by decide +kernel
def fn_X8_go (k0 : Nat) (x1 : Int32) (s : uS) : Option (uS × Int32) := some (wI s k0 5 x1, (0 : Int32))
set_option maxRecDepth 100000 in
set_option maxHeartbeats 4000000 in
theorem xc_X8_go {l : Launch} {D : va_G} {A : Nat → ClassId} {B : Nat} {Z : State → Heap → Prop} {vF : Value} (uk : uK B Z vF) {k0 : Nat} {x1 : Int32} {s : uS} {r : (uS × Int32)} (hk0 : uSo k0 8) (h : fn_X8_go k0 x1 s = some r) : CU l D A B Z 0 mX8_go s [.ref (B + k0), .int x1] (r.1, some (.int r.2)) := by
  unfold fn_X8_go at h
  refine cu_of rfl uk.1.1 (Nat.le_of_ble_eq_true rfl) ?_
  show GU _ _ _ _ _ _ _ _ _ 0 [(0, .ref (B + k0)), (1, .int x1)] []
  refine uu_aload_n dX8_go_0 rfl (List.mem_of_getElem? (i := 0) rfl) ?_
  refine uu_iload_n dX8_go_1 rfl (List.mem_of_getElem? (i := 1) rfl) ?_
  refine uu_puti (ft := .int) (ci := 8) (N := 8) fX8_33 ptX8 (Or.inl rfl) (by decide) hk0.is (by decide) (by decide) (by decide +kernel) rfl rfl dX8_go_2 ?_
  refine uu_iconst (v := 0) dX8_go_5 (by decide) ?_
  have hr := Option.some.inj h
  subst hr
  exact uu_iret rfl dX8_go_6
abbrev mX8_passOver : hM := (yX8_passOver, cX8_passOver, 2, (some (.int)))
theorem fX8_64 : h_fl RX8 64 8 7 RX8 TX8 8 := ⟨rfl, by decide, inX8, h_t2 45 rfl rfl⟩
theorem dX8_passOver_12 : decode cX8_passOver 12 = .ok (.putfield 64, 3) := by decide +kernel
theorem dX8_passOver_15 : decode cX8_passOver 15 = .ok (.aload_n 0, 1) := by decide +kernel
theorem dX8_passOver_16 : decode cX8_passOver 16 = .ok (.bipush 12, 2) := by decide +kernel
theorem kX8_go : h_ml mX8_go 1 := ⟨h_t6 234 rfl rfl, h_t1 7 rfl rfl, ⟨by decide, by decide, by decide +kernel⟩, by decide⟩
theorem lX8_68 : Cond.methodLink RX8 68 mX8_go.1 ∈ lw_g := h_t6 231 rfl rfl
theorem sX8_go : Cond.instanceMethod mX8_go.1 ∈ lw_g ∧ Cond.selects mX8_go.1.cls mX8_go.1 mX8_go.1 ∈ lw_g := ⟨h_t6 233 rfl rfl, h_ins 74 rfl⟩
theorem dX8_passOver_18 : decode cX8_passOver 18 = .ok (.invokevirtual 68, 3) := by decide +kernel
theorem dX8_passOver_21 : decode cX8_passOver 21 = .ok (.ireturn, 1) := by decide +kernel
theorem dX8_passOver_0 : decode cX8_passOver 0 = .ok (.aload_n 0, 1) := by decide +kernel
theorem dX8_passOver_1 : decode cX8_passOver 1 = .ok (.iload_n 1, 1) := by decide +kernel
theorem dX8_passOver_2 : decode cX8_passOver 2 = .ok (.bipush 13, 2) := by decide +kernel
theorem dX8_passOver_4 : decode cX8_passOver 4 = .ok (.if_icmp .ne 7, 3) := by decide +kernel
theorem dX8_passOver_11 : decode cX8_passOver 11 = .ok (.iconst 0, 1) := by decide +kernel
theorem dX8_passOver_7 : decode cX8_passOver 7 = .ok (.iconst 1, 1) := by decide +kernel
theorem dX8_passOver_8 : decode cX8_passOver 8 = .ok (.goto 4, 3) := by decide +kernel
def fb_X8_passOver_12  (k0 : Nat) (bs0 : Bool) (ks1 : Nat) (s : uS) : Option (uS × Int32) := (fn_X8_go k0 12 (wI s ks1 7 (bI bs0))).bind fun r1 => some (r1.1, r1.2)
set_option maxRecDepth 100000 in
set_option maxHeartbeats 4000000 in
theorem xb_X8_passOver_12 {l : Launch} {D : va_G} {A : Nat → ClassId} {B : Nat} {Z : State → Heap → Prop} {vF : Value} (uk : uK B Z vF)   {k0 : Nat} {bs0 : Bool} {ks1 : Nat} {s : uS} {r : (uS × Int32)} (hk0 : uSo k0 8) (hks1 : uSo ks1 8) (h : fb_X8_passOver_12  k0 bs0 ks1 s = some r) : GU l D A B Z mX8_passOver 1 (r.1, some (.int r.2)) s 12 [(0, .ref (B + k0))] [.int (bI bs0), .ref (B + ks1)] := by
  unfold fb_X8_passOver_12 at h
  refine uu_puti (ft := .boolean) (ci := 8) (N := 8) fX8_64 ptX8 (Or.inl rfl) (by decide) hks1.is (by decide) (by decide) (by decide +kernel) (bI_z _) (bI_f _) dX8_passOver_12 ?_
  refine uu_aload_n dX8_passOver_15 rfl (List.mem_of_getElem? (i := 0) rfl) ?_
  refine uu_bipush (v := 12) dX8_passOver_16 (by decide) ?_
  obtain ⟨r1, e2, h⟩ := uu_ob h
  refine uu_cv (d1 := 0) (k := k0) (ci := 8) (T := TX8) (N := 8) (As := [.int 12]) (st := []) (st' := [.int r1.2]) (xc_X8_go uk hk0 e2) hk0.is (by decide) rfl kX8_go lX8_68 sX8_go (by decide) (Nat.le_of_ble_eq_true rfl) dX8_passOver_18 rfl ?_
  have hr := Option.some.inj h
  subst hr
  exact uu_iret rfl dX8_passOver_21
def fn_X8_passOver (k0 : Nat) (x1 : Int32) (s : uS) : Option (uS × Int32) := if x1 = 13 then (fb_X8_passOver_12 k0 true k0 s) else (fb_X8_passOver_12 k0 false k0 s)
set_option maxRecDepth 100000 in
set_option maxHeartbeats 4000000 in
theorem xc_X8_passOver {l : Launch} {D : va_G} {A : Nat → ClassId} {B : Nat} {Z : State → Heap → Prop} {vF : Value} (uk : uK B Z vF) {k0 : Nat} {x1 : Int32} {s : uS} {r : (uS × Int32)} (hk0 : uSo k0 8) (h : fn_X8_passOver k0 x1 s = some r) : CU l D A B Z 1 mX8_passOver s [.ref (B + k0), .int x1] (r.1, some (.int r.2)) := by
  unfold fn_X8_passOver at h
  refine cu_of rfl uk.1.1 (Nat.le_of_ble_eq_true rfl) ?_
  show GU _ _ _ _ _ _ _ _ _ 0 [(0, .ref (B + k0)), (1, .int x1)] []
  refine uu_aload_n dX8_passOver_0 rfl (List.mem_of_getElem? (i := 0) rfl) ?_
  refine uu_iload_n dX8_passOver_1 rfl (List.mem_of_getElem? (i := 1) rfl) ?_
  refine uu_bipush (v := 13) dX8_passOver_2 (by decide) ?_
  refine uu_icmp_ne (tgt := 11) dX8_passOver_4 (by decide) (fun c1 => ?_) (fun c1 => ?_)
  · replace h := uu_neg c1 h
    refine uu_iconst (v := 0) dX8_passOver_11 (by decide) ?_
    refine uu_lv [0] (lv' := [(0, .ref (B + k0))]) rfl ?_
    exact xb_X8_passOver_12 uk hk0 hk0 h
  · replace h := uu_pos c1 h
    refine uu_iconst (v := 1) dX8_passOver_7 (by decide) ?_
    refine uu_goto (tgt := 12) dX8_passOver_8 (by decide) ?_
    refine uu_lv [0] (lv' := [(0, .ref (B + k0))]) rfl ?_
    exact xb_X8_passOver_12 uk hk0 hk0 h
abbrev mX8_partEnd : hM := (yX8_partEnd, cX8_partEnd, 2, (some (.int)))
theorem dX8_partEnd_38 : decode cX8_partEnd 38 = .ok (.aload_n 0, 1) := by decide +kernel
theorem dX8_partEnd_39 : decode cX8_partEnd 39 = .ok (.iload_n 1, 1) := by decide +kernel
theorem kX8_passOver : h_ml mX8_passOver 1 := ⟨h_t6 230 rfl rfl, h_t1 7 rfl rfl, ⟨by decide, by decide, by decide +kernel⟩, by decide⟩
theorem lX8_58 : Cond.methodLink RX8 58 mX8_passOver.1 ∈ lw_g := h_t6 227 rfl rfl
theorem sX8_passOver : Cond.instanceMethod mX8_passOver.1 ∈ lw_g ∧ Cond.selects mX8_passOver.1.cls mX8_passOver.1 mX8_passOver.1 ∈ lw_g := ⟨h_t6 229 rfl rfl, h_ins 73 rfl⟩
theorem dX8_partEnd_40 : decode cX8_partEnd 40 = .ok (.invokevirtual 58, 3) := by decide +kernel
theorem dX8_partEnd_43 : decode cX8_partEnd 43 = .ok (.ireturn, 1) := by decide +kernel
theorem dX8_partEnd_0 : decode cX8_partEnd 0 = .ok (.iload_n 1, 1) := by decide +kernel
theorem dX8_partEnd_1 : decode cX8_partEnd 1 = .ok (.bipush 13, 2) := by decide +kernel
theorem dX8_partEnd_3 : decode cX8_partEnd 3 = .ok (.if_icmp .ne 10, 3) := by decide +kernel
theorem dX8_partEnd_13 : decode cX8_partEnd 13 = .ok (.iload_n 1, 1) := by decide +kernel
theorem dX8_partEnd_14 : decode cX8_partEnd 14 = .ok (.bipush 32, 2) := by decide +kernel
theorem dX8_partEnd_16 : decode cX8_partEnd 16 = .ok (.if_icmp .ne 22, 3) := by decide +kernel
theorem dX8_partEnd_19 : decode cX8_partEnd 19 = .ok (.aload_n 0, 1) := by decide +kernel
theorem dX8_partEnd_20 : decode cX8_partEnd 20 = .ok (.getfield 14, 3) := by decide +kernel
theorem fX8_75 : h_fl RX8 75 9 3 RX9 TX9 6 := ⟨rfl, by decide, inX9, h_t1 82 rfl rfl⟩
theorem dX8_partEnd_23 : decode cX8_partEnd 23 = .ok (.getfield 75, 3) := by decide +kernel
theorem dX8_partEnd_26 : decode cX8_partEnd 26 = .ok (.iconst 3, 1) := by decide +kernel
theorem dX8_partEnd_27 : decode cX8_partEnd 27 = .ok (.if_icmp .ge 11, 3) := by decide +kernel
theorem dX8_partEnd_30 : decode cX8_partEnd 30 = .ok (.aload_n 0, 1) := by decide +kernel
theorem dX8_partEnd_31 : decode cX8_partEnd 31 = .ok (.iconst 1, 1) := by decide +kernel
theorem dX8_partEnd_32 : decode cX8_partEnd 32 = .ok (.invokevirtual 68, 3) := by decide +kernel
theorem dX8_partEnd_35 : decode cX8_partEnd 35 = .ok (.goto 8, 3) := by decide +kernel
theorem dX8_partEnd_6 : decode cX8_partEnd 6 = .ok (.aload_n 0, 1) := by decide +kernel
theorem dX8_partEnd_7 : decode cX8_partEnd 7 = .ok (.bipush 11, 2) := by decide +kernel
theorem dX8_partEnd_9 : decode cX8_partEnd 9 = .ok (.invokevirtual 68, 3) := by decide +kernel
theorem dX8_partEnd_12 : decode cX8_partEnd 12 = .ok (.ireturn, 1) := by decide +kernel
def fb_X8_partEnd_38  (k0 : Nat) (x1 : Int32) (s : uS) : Option (uS × Int32) := (fn_X8_passOver k0 x1 s).bind fun r1 => some (r1.1, r1.2)
set_option maxRecDepth 100000 in
set_option maxHeartbeats 4000000 in
theorem xb_X8_partEnd_38 {l : Launch} {D : va_G} {A : Nat → ClassId} {B : Nat} {Z : State → Heap → Prop} {vF : Value} (uk : uK B Z vF)   {k0 : Nat} {x1 : Int32} {s : uS} {r : (uS × Int32)} (hk0 : uSo k0 8) (h : fb_X8_partEnd_38  k0 x1 s = some r) : GU l D A B Z mX8_partEnd 2 (r.1, some (.int r.2)) s 38 [(0, .ref (B + k0)), (1, .int x1)] [] := by
  unfold fb_X8_partEnd_38 at h
  refine uu_aload_n dX8_partEnd_38 rfl (List.mem_of_getElem? (i := 0) rfl) ?_
  refine uu_iload_n dX8_partEnd_39 rfl (List.mem_of_getElem? (i := 1) rfl) ?_
  obtain ⟨r1, e2, h⟩ := uu_ob h
  refine uu_cv (d1 := 1) (k := k0) (ci := 8) (T := TX8) (N := 8) (As := [.int x1]) (st := []) (st' := [.int r1.2]) (xc_X8_passOver uk hk0 e2) hk0.is (by decide) rfl kX8_passOver lX8_58 sX8_passOver (by decide) (Nat.le_of_ble_eq_true rfl) dX8_partEnd_40 rfl ?_
  have hr := Option.some.inj h
  subst hr
  exact uu_iret rfl dX8_partEnd_43
def fn_X8_partEnd (k0 : Nat) (x1 : Int32) (s : uS) : Option (uS × Int32) := if x1 = 13 then ((fn_X8_go k0 11 s).bind fun r6 => some (r6.1, r6.2)) else (if x1 = 32 then (if (3 : Int32) ≤ (s.I (k0 + 1) 3) then (fb_X8_partEnd_38 k0 x1 s) else ((fn_X8_go k0 1 s).bind fun r4 => some (r4.1, r4.2))) else (fb_X8_partEnd_38 k0 x1 s))
set_option maxRecDepth 100000 in
set_option maxHeartbeats 4000000 in
theorem xc_X8_partEnd {l : Launch} {D : va_G} {A : Nat → ClassId} {B : Nat} {Z : State → Heap → Prop} {vF : Value} (uk : uK B Z vF) {k0 : Nat} {x1 : Int32} {s : uS} {r : (uS × Int32)} (hk0 : uSo k0 8) (h : fn_X8_partEnd k0 x1 s = some r) : CU l D A B Z 2 mX8_partEnd s [.ref (B + k0), .int x1] (r.1, some (.int r.2)) := by
  unfold fn_X8_partEnd at h
  refine cu_of rfl uk.1.1 (Nat.le_of_ble_eq_true rfl) ?_
  show GU _ _ _ _ _ _ _ _ _ 0 [(0, .ref (B + k0)), (1, .int x1)] []
  refine uu_iload_n dX8_partEnd_0 rfl (List.mem_of_getElem? (i := 1) rfl) ?_
  refine uu_bipush (v := 13) dX8_partEnd_1 (by decide) ?_
  refine uu_icmp_ne (tgt := 13) dX8_partEnd_3 (by decide) (fun c1 => ?_) (fun c1 => ?_)
  · replace h := uu_neg c1 h
    refine uu_iload_n dX8_partEnd_13 rfl (List.mem_of_getElem? (i := 1) rfl) ?_
    refine uu_bipush (v := 32) dX8_partEnd_14 (by decide) ?_
    refine uu_icmp_ne (tgt := 38) dX8_partEnd_16 (by decide) (fun c2 => ?_) (fun c2 => ?_)
    · replace h := uu_neg c2 h
      exact xb_X8_partEnd_38 uk hk0 h
    · replace h := uu_pos c2 h
      refine uu_aload_n dX8_partEnd_19 rfl (List.mem_of_getElem? (i := 0) rfl) ?_
      refine uu_getc (ci := 8) (N := 8) fX8_14 (by decide) hk0.is (by decide) (c := 1) (by decide) (k2 := k0 + 1) rfl dX8_partEnd_20 ?_
      refine uu_geti (ci := 9) (N := 6) fX8_75 (by decide) (so_parts hk0).is (by decide) (by decide) dX8_partEnd_23 ?_
      refine uu_iconst (v := 3) dX8_partEnd_26 (by decide) ?_
      refine uu_icmp_ge (tgt := 38) dX8_partEnd_27 (by decide) (fun c3 => ?_) (fun c3 => ?_)
      · replace h := uu_pos c3 h
        exact xb_X8_partEnd_38 uk hk0 h
      · replace h := uu_neg c3 h
        refine uu_aload_n dX8_partEnd_30 rfl (List.mem_of_getElem? (i := 0) rfl) ?_
        refine uu_iconst (v := 1) dX8_partEnd_31 (by decide) ?_
        obtain ⟨r4, e5, h⟩ := uu_ob h
        refine uu_cv (d1 := 0) (k := k0) (ci := 8) (T := TX8) (N := 8) (As := [.int 1]) (st := []) (st' := [.int r4.2]) (xc_X8_go uk hk0 e5) hk0.is (by decide) rfl kX8_go lX8_68 sX8_go (by decide) (Nat.le_of_ble_eq_true rfl) dX8_partEnd_32 rfl ?_
        refine uu_goto (tgt := 43) dX8_partEnd_35 (by decide) ?_
        have hr := Option.some.inj h
        subst hr
        exact uu_iret rfl dX8_partEnd_43
  · replace h := uu_pos c1 h
    refine uu_aload_n dX8_partEnd_6 rfl (List.mem_of_getElem? (i := 0) rfl) ?_
    refine uu_bipush (v := 11) dX8_partEnd_7 (by decide) ?_
    obtain ⟨r6, e7, h⟩ := uu_ob h
    refine uu_cv (d1 := 0) (k := k0) (ci := 8) (T := TX8) (N := 8) (As := [.int 11]) (st := []) (st' := [.int r6.2]) (xc_X8_go uk hk0 e7) hk0.is (by decide) rfl kX8_go lX8_68 sX8_go (by decide) (Nat.le_of_ble_eq_true rfl) dX8_partEnd_9 rfl ?_
    have hr := Option.some.inj h
    subst hr
    exact uu_iret rfl dX8_partEnd_12
abbrev mX8_inWord : hM := (yX8_inWord, cX8_inWord, 2, (some (.int)))
theorem dX8_inWord_0 : decode cX8_inWord 0 = .ok (.iload_n 1, 1) := by decide +kernel
theorem lX8_71 : Cond.methodLink RX8 71 mX9_isLetter.1 ∈ lw_g := h_t6 226 rfl rfl
theorem dX8_inWord_1 : decode cX8_inWord 1 = .ok (.invokestatic 71, 3) := by decide +kernel
theorem dX8_inWord_4 : decode cX8_inWord 4 = .ok (.ifCond .ne 24, 3) := by decide +kernel
theorem dX8_inWord_28 : decode cX8_inWord 28 = .ok (.aload_n 0, 1) := by decide +kernel
theorem dX8_inWord_29 : decode cX8_inWord 29 = .ok (.getfield 29, 3) := by decide +kernel
theorem dX8_inWord_32 : decode cX8_inWord 32 = .ok (.bipush 13, 2) := by decide +kernel
theorem dX8_inWord_34 : decode cX8_inWord 34 = .ok (.if_icmp .ge 24, 3) := by decide +kernel
theorem dX8_inWord_58 : decode cX8_inWord 58 = .ok (.iconst 0, 1) := by decide +kernel
theorem dX8_inWord_59 : decode cX8_inWord 59 = .ok (.ireturn, 1) := by decide +kernel
theorem dX8_inWord_37 : decode cX8_inWord 37 = .ok (.aload_n 0, 1) := by decide +kernel
theorem dX8_inWord_38 : decode cX8_inWord 38 = .ok (.getfield 22, 3) := by decide +kernel
theorem dX8_inWord_41 : decode cX8_inWord 41 = .ok (.aload_n 0, 1) := by decide +kernel
theorem dX8_inWord_42 : decode cX8_inWord 42 = .ok (.getfield 29, 3) := by decide +kernel
theorem dX8_inWord_45 : decode cX8_inWord 45 = .ok (.iload_n 1, 1) := by decide +kernel
theorem dX8_inWord_46 : decode cX8_inWord 46 = .ok (.i2b, 1) := by decide +kernel
theorem dX8_inWord_47 : decode cX8_inWord 47 = .ok (.bastore, 1) := by decide +kernel
theorem dX8_inWord_48 : decode cX8_inWord 48 = .ok (.aload_n 0, 1) := by decide +kernel
theorem dX8_inWord_49 : decode cX8_inWord 49 = .ok (.dup, 1) := by decide +kernel
theorem dX8_inWord_50 : decode cX8_inWord 50 = .ok (.getfield 29, 3) := by decide +kernel
theorem dX8_inWord_53 : decode cX8_inWord 53 = .ok (.iconst 1, 1) := by decide +kernel
theorem dX8_inWord_54 : decode cX8_inWord 54 = .ok (.iadd, 1) := by decide +kernel
theorem dX8_inWord_55 : decode cX8_inWord 55 = .ok (.putfield 29, 3) := by decide +kernel
theorem dX8_inWord_7 : decode cX8_inWord 7 = .ok (.aload_n 0, 1) := by decide +kernel
theorem dX8_inWord_8 : decode cX8_inWord 8 = .ok (.getfield 29, 3) := by decide +kernel
theorem dX8_inWord_11 : decode cX8_inWord 11 = .ok (.ifCond .ne 11, 3) := by decide +kernel
theorem dX8_inWord_22 : decode cX8_inWord 22 = .ok (.aload_n 0, 1) := by decide +kernel
theorem dX8_inWord_23 : decode cX8_inWord 23 = .ok (.iload_n 1, 1) := by decide +kernel
theorem kX8_partEnd : h_ml mX8_partEnd 1 := ⟨h_t6 238 rfl rfl, h_t1 7 rfl rfl, ⟨by decide, by decide, by decide +kernel⟩, by decide⟩
theorem lX8_55 : Cond.methodLink RX8 55 mX8_partEnd.1 ∈ lw_g := h_t6 235 rfl rfl
theorem sX8_partEnd : Cond.instanceMethod mX8_partEnd.1 ∈ lw_g ∧ Cond.selects mX8_partEnd.1.cls mX8_partEnd.1 mX8_partEnd.1 ∈ lw_g := ⟨h_t6 237 rfl rfl, h_ins 75 rfl⟩
theorem dX8_inWord_24 : decode cX8_inWord 24 = .ok (.invokevirtual 55, 3) := by decide +kernel
theorem dX8_inWord_27 : decode cX8_inWord 27 = .ok (.ireturn, 1) := by decide +kernel
theorem dX8_inWord_14 : decode cX8_inWord 14 = .ok (.aload_n 0, 1) := by decide +kernel
theorem dX8_inWord_15 : decode cX8_inWord 15 = .ok (.iload_n 1, 1) := by decide +kernel
theorem dX8_inWord_16 : decode cX8_inWord 16 = .ok (.invokevirtual 58, 3) := by decide +kernel
theorem dX8_inWord_19 : decode cX8_inWord 19 = .ok (.goto 8, 3) := by decide +kernel
def fn_X8_inWord (k0 : Nat) (x1 : Int32) (s : uS) : Option (uS × Int32) := (fn_X9_isLetter x1 s).bind fun v1 => if v1 = true then (if (13 : Int32) ≤ (s.I k0 4) then (some (s, (0 : Int32))) else ((iput 21 s (k0 + 6) (s.I k0 4) x1.toInt8.toInt32).bind fun s5 => some (wI s5 k0 4 ((s5.I k0 4) + 1), (0 : Int32)))) else (if (s.I k0 4) = 0 then ((fn_X8_passOver k0 x1 s).bind fun r10 => some (r10.1, r10.2)) else ((fn_X8_partEnd k0 x1 s).bind fun r8 => some (r8.1, r8.2)))
set_option maxRecDepth 100000 in
set_option maxHeartbeats 4000000 in
theorem xc_X8_inWord {l : Launch} {D : va_G} {A : Nat → ClassId} {B : Nat} {Z : State → Heap → Prop} {vF : Value} (uk : uK B Z vF) {k0 : Nat} {x1 : Int32} {s : uS} {r : (uS × Int32)} (hk0 : uSo k0 8) (h : fn_X8_inWord k0 x1 s = some r) : CU l D A B Z 3 mX8_inWord s [.ref (B + k0), .int x1] (r.1, some (.int r.2)) := by
  unfold fn_X8_inWord at h
  refine cu_of rfl uk.1.1 (Nat.le_of_ble_eq_true rfl) ?_
  show GU _ _ _ _ _ _ _ _ _ 0 [(0, .ref (B + k0)), (1, .int x1)] []
  refine uu_iload_n dX8_inWord_0 rfl (List.mem_of_getElem? (i := 1) rfl) ?_
  obtain ⟨v1, e2, h⟩ := uu_ob h
  refine uu_cs (d1 := 0) (As := [.int x1]) (st := []) (st' := [.int (bI v1)]) (xc_X9_isLetter uk  e2) kX9_isLetter lX8_71 sX9_isLetter (by decide) (Nat.le_of_ble_eq_true rfl) dX8_inWord_1 rfl ?_
  refine uu_ifb_ne (tgt := 28) dX8_inWord_4 (by decide) (fun c3 => ?_) (fun c3 => ?_)
  · replace h := uu_pos c3 h
    refine uu_aload_n dX8_inWord_28 rfl (List.mem_of_getElem? (i := 0) rfl) ?_
    refine uu_geti (ci := 8) (N := 8) fX8_29 (by decide) hk0.is (by decide) (by decide) dX8_inWord_29 ?_
    refine uu_bipush (v := 13) dX8_inWord_32 (by decide) ?_
    refine uu_icmp_ge (tgt := 58) dX8_inWord_34 (by decide) (fun c4 => ?_) (fun c4 => ?_)
    · replace h := uu_pos c4 h
      refine uu_iconst (v := 0) dX8_inWord_58 (by decide) ?_
      have hr := Option.some.inj h
      subst hr
      exact uu_iret rfl dX8_inWord_59
    · replace h := uu_neg c4 h
      refine uu_aload_n dX8_inWord_37 rfl (List.mem_of_getElem? (i := 0) rfl) ?_
      refine uu_getc (ci := 8) (N := 8) fX8_22 (by decide) hk0.is (by decide) (c := 6) (by decide) (k2 := k0 + 6) rfl dX8_inWord_38 ?_
      refine uu_aload_n dX8_inWord_41 rfl (List.mem_of_getElem? (i := 0) rfl) ?_
      refine uu_geti (ci := 8) (N := 8) fX8_29 (by decide) hk0.is (by decide) (by decide) dX8_inWord_42 ?_
      refine uu_iload_n dX8_inWord_45 rfl (List.mem_of_getElem? (i := 1) rfl) ?_
      refine uu_i2b dX8_inWord_46 rfl ?_
      obtain ⟨s5, e6, h⟩ := uu_ob h
      refine uu_bast e6 dX8_inWord_47 ?_
      refine uu_aload_n dX8_inWord_48 rfl (List.mem_of_getElem? (i := 0) rfl) ?_
      refine uu_dup dX8_inWord_49 rfl ?_
      refine uu_geti (ci := 8) (N := 8) fX8_29 (by decide) hk0.is (by decide) (by decide) dX8_inWord_50 ?_
      refine uu_iconst (v := 1) dX8_inWord_53 (by decide) ?_
      refine uu_iadd dX8_inWord_54 ?_
      refine uu_puti (ft := .int) (ci := 8) (N := 8) fX8_29 ptX8 (Or.inl rfl) (by decide) hk0.is (by decide) (by decide) (by decide +kernel) rfl rfl dX8_inWord_55 ?_
      refine uu_iconst (v := 0) dX8_inWord_58 (by decide) ?_
      have hr := Option.some.inj h
      subst hr
      exact uu_iret rfl dX8_inWord_59
  · replace h := uu_neg c3 h
    refine uu_aload_n dX8_inWord_7 rfl (List.mem_of_getElem? (i := 0) rfl) ?_
    refine uu_geti (ci := 8) (N := 8) fX8_29 (by decide) hk0.is (by decide) (by decide) dX8_inWord_8 ?_
    refine uu_if_ne (tgt := 22) dX8_inWord_11 (by decide) (fun c7 => ?_) (fun c7 => ?_)
    · replace h := uu_neg c7 h
      refine uu_aload_n dX8_inWord_22 rfl (List.mem_of_getElem? (i := 0) rfl) ?_
      refine uu_iload_n dX8_inWord_23 rfl (List.mem_of_getElem? (i := 1) rfl) ?_
      obtain ⟨r8, e9, h⟩ := uu_ob h
      refine uu_cv (d1 := 2) (k := k0) (ci := 8) (T := TX8) (N := 8) (As := [.int x1]) (st := []) (st' := [.int r8.2]) (xc_X8_partEnd uk hk0 e9) hk0.is (by decide) rfl kX8_partEnd lX8_55 sX8_partEnd (by decide) (Nat.le_of_ble_eq_true rfl) dX8_inWord_24 rfl ?_
      have hr := Option.some.inj h
      subst hr
      exact uu_iret rfl dX8_inWord_27
    · replace h := uu_pos c7 h
      refine uu_aload_n dX8_inWord_14 rfl (List.mem_of_getElem? (i := 0) rfl) ?_
      refine uu_iload_n dX8_inWord_15 rfl (List.mem_of_getElem? (i := 1) rfl) ?_
      obtain ⟨r10, e11, h⟩ := uu_ob h
      refine uu_cv (d1 := 1) (k := k0) (ci := 8) (T := TX8) (N := 8) (As := [.int x1]) (st := []) (st' := [.int r10.2]) (xc_X8_passOver uk hk0 e11) hk0.is (by decide) rfl kX8_passOver lX8_58 sX8_passOver (by decide) (Nat.le_of_ble_eq_true rfl) dX8_inWord_16 rfl ?_
      refine uu_goto (tgt := 27) dX8_inWord_19 (by decide) ?_
      have hr := Option.some.inj h
      subst hr
      exact uu_iret rfl dX8_inWord_27
abbrev mX8_closePart : hM := (yX8_closePart, cX8_closePart, 2, (some (.int)))
theorem dX8_closePart_24 : decode cX8_closePart 24 = .ok (.aload_n 0, 1) := by decide +kernel
theorem dX8_closePart_25 : decode cX8_closePart 25 = .ok (.getfield 14, 3) := by decide +kernel
theorem lX8_103 : Cond.methodLink RX8 103 mX9_close.1 ∈ lw_g := h_t7 12 rfl rfl
theorem dX8_closePart_28 : decode cX8_closePart 28 = .ok (.invokevirtual 103, 3) := by decide +kernel
theorem dX8_closePart_31 : decode cX8_closePart 31 = .ok (.aload_n 0, 1) := by decide +kernel
theorem dX8_closePart_32 : decode cX8_closePart 32 = .ok (.bipush 10, 2) := by decide +kernel
theorem dX8_closePart_34 : decode cX8_closePart 34 = .ok (.invokevirtual 68, 3) := by decide +kernel
theorem dX8_closePart_37 : decode cX8_closePart 37 = .ok (.ireturn, 1) := by decide +kernel
theorem dX8_closePart_0 : decode cX8_closePart 0 = .ok (.aload_n 0, 1) := by decide +kernel
theorem dX8_closePart_1 : decode cX8_closePart 1 = .ok (.getfield 14, 3) := by decide +kernel
theorem dX8_closePart_4 : decode cX8_closePart 4 = .ok (.getfield 75, 3) := by decide +kernel
theorem dX8_closePart_7 : decode cX8_closePart 7 = .ok (.iconst 3, 1) := by decide +kernel
theorem dX8_closePart_8 : decode cX8_closePart 8 = .ok (.if_icmp .ge 16, 3) := by decide +kernel
theorem dX8_closePart_11 : decode cX8_closePart 11 = .ok (.aload_n 0, 1) := by decide +kernel
theorem dX8_closePart_12 : decode cX8_closePart 12 = .ok (.getfield 18, 3) := by decide +kernel
theorem dX8_closePart_15 : decode cX8_closePart 15 = .ok (.aload_n 0, 1) := by decide +kernel
theorem dX8_closePart_16 : decode cX8_closePart 16 = .ok (.getfield 14, 3) := by decide +kernel
theorem dX8_closePart_19 : decode cX8_closePart 19 = .ok (.getfield 75, 3) := by decide +kernel
theorem dX8_closePart_22 : decode cX8_closePart 22 = .ok (.iload_n 1, 1) := by decide +kernel
theorem dX8_closePart_23 : decode cX8_closePart 23 = .ok (.iastore, 1) := by decide +kernel
def fb_X8_closePart_24  (k0 : Nat) (s : uS) : Option (uS × Int32) := (fn_X9_close (k0 + 1) s).bind fun s1 => (fn_X8_go k0 10 s1).bind fun r3 => some (r3.1, r3.2)
set_option maxRecDepth 100000 in
set_option maxHeartbeats 4000000 in
theorem xb_X8_closePart_24 {l : Launch} {D : va_G} {A : Nat → ClassId} {B : Nat} {Z : State → Heap → Prop} {vF : Value} (uk : uK B Z vF)   {k0 : Nat} {s : uS} {r : (uS × Int32)} (hk0 : uSo k0 8) (h : fb_X8_closePart_24  k0 s = some r) : GU l D A B Z mX8_closePart 1 (r.1, some (.int r.2)) s 24 [(0, .ref (B + k0))] [] := by
  unfold fb_X8_closePart_24 at h
  refine uu_aload_n dX8_closePart_24 rfl (List.mem_of_getElem? (i := 0) rfl) ?_
  refine uu_getc (ci := 8) (N := 8) fX8_14 (by decide) hk0.is (by decide) (c := 1) (by decide) (k2 := k0 + 1) rfl dX8_closePart_25 ?_
  obtain ⟨s1, e2, h⟩ := uu_ob h
  refine uu_cv (d1 := 0) (k := k0 + 1) (ci := 9) (T := TX9) (N := 6) (As := []) (st := []) (st' := []) (xc_X9_close uk (so_parts hk0) e2) (so_parts hk0).is (by decide) rfl kX9_close lX8_103 sX9_close (by decide) (Nat.le_of_ble_eq_true rfl) dX8_closePart_28 rfl ?_
  refine uu_aload_n dX8_closePart_31 rfl (List.mem_of_getElem? (i := 0) rfl) ?_
  refine uu_bipush (v := 10) dX8_closePart_32 (by decide) ?_
  obtain ⟨r3, e4, h⟩ := uu_ob h
  refine uu_cv (d1 := 0) (k := k0) (ci := 8) (T := TX8) (N := 8) (As := [.int 10]) (st := []) (st' := [.int r3.2]) (xc_X8_go uk hk0 e4) hk0.is (by decide) rfl kX8_go lX8_68 sX8_go (by decide) (Nat.le_of_ble_eq_true rfl) dX8_closePart_34 rfl ?_
  have hr := Option.some.inj h
  subst hr
  exact uu_iret rfl dX8_closePart_37
def fn_X8_closePart (k0 : Nat) (x1 : Int32) (s : uS) : Option (uS × Int32) := if (3 : Int32) ≤ (s.I (k0 + 1) 3) then (fb_X8_closePart_24 k0 s) else ((iput 20 s (k0 + 5) (s.I (k0 + 1) 3) x1).bind fun s2 => fb_X8_closePart_24 k0 s2)
set_option maxRecDepth 100000 in
set_option maxHeartbeats 4000000 in
theorem xc_X8_closePart {l : Launch} {D : va_G} {A : Nat → ClassId} {B : Nat} {Z : State → Heap → Prop} {vF : Value} (uk : uK B Z vF) {k0 : Nat} {x1 : Int32} {s : uS} {r : (uS × Int32)} (hk0 : uSo k0 8) (h : fn_X8_closePart k0 x1 s = some r) : CU l D A B Z 1 mX8_closePart s [.ref (B + k0), .int x1] (r.1, some (.int r.2)) := by
  unfold fn_X8_closePart at h
  refine cu_of rfl uk.1.1 (Nat.le_of_ble_eq_true rfl) ?_
  show GU _ _ _ _ _ _ _ _ _ 0 [(0, .ref (B + k0)), (1, .int x1)] []
  refine uu_aload_n dX8_closePart_0 rfl (List.mem_of_getElem? (i := 0) rfl) ?_
  refine uu_getc (ci := 8) (N := 8) fX8_14 (by decide) hk0.is (by decide) (c := 1) (by decide) (k2 := k0 + 1) rfl dX8_closePart_1 ?_
  refine uu_geti (ci := 9) (N := 6) fX8_75 (by decide) (so_parts hk0).is (by decide) (by decide) dX8_closePart_4 ?_
  refine uu_iconst (v := 3) dX8_closePart_7 (by decide) ?_
  refine uu_icmp_ge (tgt := 24) dX8_closePart_8 (by decide) (fun c1 => ?_) (fun c1 => ?_)
  · replace h := uu_pos c1 h
    refine uu_lv [0] (lv' := [(0, .ref (B + k0))]) rfl ?_
    exact xb_X8_closePart_24 uk hk0 h
  · replace h := uu_neg c1 h
    refine uu_aload_n dX8_closePart_11 rfl (List.mem_of_getElem? (i := 0) rfl) ?_
    refine uu_getc (ci := 8) (N := 8) fX8_18 (by decide) hk0.is (by decide) (c := 5) (by decide) (k2 := k0 + 5) rfl dX8_closePart_12 ?_
    refine uu_aload_n dX8_closePart_15 rfl (List.mem_of_getElem? (i := 0) rfl) ?_
    refine uu_getc (ci := 8) (N := 8) fX8_14 (by decide) hk0.is (by decide) (c := 1) (by decide) (k2 := k0 + 1) rfl dX8_closePart_16 ?_
    refine uu_geti (ci := 9) (N := 6) fX8_75 (by decide) (so_parts hk0).is (by decide) (by decide) dX8_closePart_19 ?_
    refine uu_iload_n dX8_closePart_22 rfl (List.mem_of_getElem? (i := 1) rfl) ?_
    obtain ⟨s2, e3, h⟩ := uu_ob h
    refine uu_iast e3 dX8_closePart_23 ?_
    refine uu_lv [0] (lv' := [(0, .ref (B + k0))]) rfl ?_
    exact xb_X8_closePart_24 uk hk0 h
abbrev mX8_addDigit : hM := (yX8_addDigit, cX8_addDigit, 2, (some (.boolean)))
theorem dX8_addDigit_0 : decode cX8_addDigit 0 = .ok (.aload_n 0, 1) := by decide +kernel
theorem fX8_81 : h_fl RX8 81 8 6 RX8 TX8 8 := ⟨rfl, by decide, inX8, h_t2 44 rfl rfl⟩
theorem dX8_addDigit_1 : decode cX8_addDigit 1 = .ok (.getfield 81, 3) := by decide +kernel
theorem dX8_addDigit_4 : decode cX8_addDigit 4 = .ok (.bipush 9, 2) := by decide +kernel
theorem dX8_addDigit_6 : decode cX8_addDigit 6 = .ok (.if_icmp .ne 5, 3) := by decide +kernel
theorem dX8_addDigit_11 : decode cX8_addDigit 11 = .ok (.aload_n 0, 1) := by decide +kernel
theorem dX8_addDigit_12 : decode cX8_addDigit 12 = .ok (.aload_n 0, 1) := by decide +kernel
theorem fX8_78 : h_fl RX8 78 8 1 RX8 TX8 8 := ⟨rfl, by decide, inX8, h_t2 38 rfl rfl⟩
theorem dX8_addDigit_13 : decode cX8_addDigit 13 = .ok (.getfield 78, 3) := by decide +kernel
theorem dX8_addDigit_16 : decode cX8_addDigit 16 = .ok (.bipush 10, 2) := by decide +kernel
theorem dX8_addDigit_18 : decode cX8_addDigit 18 = .ok (.imul, 1) := by decide +kernel
theorem dX8_addDigit_19 : decode cX8_addDigit 19 = .ok (.iload_n 1, 1) := by decide +kernel
theorem dX8_addDigit_20 : decode cX8_addDigit 20 = .ok (.iadd, 1) := by decide +kernel
theorem dX8_addDigit_21 : decode cX8_addDigit 21 = .ok (.bipush 48, 2) := by decide +kernel
theorem dX8_addDigit_23 : decode cX8_addDigit 23 = .ok (.isub, 1) := by decide +kernel
theorem dX8_addDigit_24 : decode cX8_addDigit 24 = .ok (.putfield 78, 3) := by decide +kernel
theorem dX8_addDigit_27 : decode cX8_addDigit 27 = .ok (.aload_n 0, 1) := by decide +kernel
theorem dX8_addDigit_28 : decode cX8_addDigit 28 = .ok (.dup, 1) := by decide +kernel
theorem dX8_addDigit_29 : decode cX8_addDigit 29 = .ok (.getfield 81, 3) := by decide +kernel
theorem dX8_addDigit_32 : decode cX8_addDigit 32 = .ok (.iconst 1, 1) := by decide +kernel
theorem dX8_addDigit_33 : decode cX8_addDigit 33 = .ok (.iadd, 1) := by decide +kernel
theorem dX8_addDigit_34 : decode cX8_addDigit 34 = .ok (.putfield 81, 3) := by decide +kernel
theorem dX8_addDigit_37 : decode cX8_addDigit 37 = .ok (.iconst 1, 1) := by decide +kernel
theorem dX8_addDigit_38 : decode cX8_addDigit 38 = .ok (.ireturn, 1) := by decide +kernel
theorem dX8_addDigit_9 : decode cX8_addDigit 9 = .ok (.iconst 0, 1) := by decide +kernel
theorem dX8_addDigit_10 : decode cX8_addDigit 10 = .ok (.ireturn, 1) := by decide +kernel
def fn_X8_addDigit (k0 : Nat) (x1 : Int32) (s : uS) : Option (uS × Bool) := if (s.I k0 6) = 9 then (some (s, false)) else (some (wI (wI s k0 1 ((((s.I k0 1) * 10) + x1) - 48)) k0 6 (((wI s k0 1 ((((s.I k0 1) * 10) + x1) - 48)).I k0 6) + 1), true))
set_option maxRecDepth 100000 in
set_option maxHeartbeats 4000000 in
theorem xc_X8_addDigit {l : Launch} {D : va_G} {A : Nat → ClassId} {B : Nat} {Z : State → Heap → Prop} {vF : Value} (uk : uK B Z vF) {k0 : Nat} {x1 : Int32} {s : uS} {r : (uS × Bool)} (hk0 : uSo k0 8) (h : fn_X8_addDigit k0 x1 s = some r) : CU l D A B Z 0 mX8_addDigit s [.ref (B + k0), .int x1] (r.1, some (.int (bI r.2))) := by
  unfold fn_X8_addDigit at h
  refine cu_of rfl uk.1.1 (Nat.le_of_ble_eq_true rfl) ?_
  show GU _ _ _ _ _ _ _ _ _ 0 [(0, .ref (B + k0)), (1, .int x1)] []
  refine uu_aload_n dX8_addDigit_0 rfl (List.mem_of_getElem? (i := 0) rfl) ?_
  refine uu_geti (ci := 8) (N := 8) fX8_81 (by decide) hk0.is (by decide) (by decide) dX8_addDigit_1 ?_
  refine uu_bipush (v := 9) dX8_addDigit_4 (by decide) ?_
  refine uu_icmp_ne (tgt := 11) dX8_addDigit_6 (by decide) (fun c1 => ?_) (fun c1 => ?_)
  · replace h := uu_neg c1 h
    refine uu_aload_n dX8_addDigit_11 rfl (List.mem_of_getElem? (i := 0) rfl) ?_
    refine uu_aload_n dX8_addDigit_12 rfl (List.mem_of_getElem? (i := 0) rfl) ?_
    refine uu_geti (ci := 8) (N := 8) fX8_78 (by decide) hk0.is (by decide) (by decide) dX8_addDigit_13 ?_
    refine uu_bipush (v := 10) dX8_addDigit_16 (by decide) ?_
    refine uu_imul dX8_addDigit_18 ?_
    refine uu_iload_n dX8_addDigit_19 rfl (List.mem_of_getElem? (i := 1) rfl) ?_
    refine uu_iadd dX8_addDigit_20 ?_
    refine uu_bipush (v := 48) dX8_addDigit_21 (by decide) ?_
    refine uu_isub dX8_addDigit_23 ?_
    refine uu_puti (ft := .int) (ci := 8) (N := 8) fX8_78 ptX8 (Or.inl rfl) (by decide) hk0.is (by decide) (by decide) (by decide +kernel) rfl rfl dX8_addDigit_24 ?_
    refine uu_aload_n dX8_addDigit_27 rfl (List.mem_of_getElem? (i := 0) rfl) ?_
    refine uu_dup dX8_addDigit_28 rfl ?_
    refine uu_geti (ci := 8) (N := 8) fX8_81 (by decide) hk0.is (by decide) (by decide) dX8_addDigit_29 ?_
    refine uu_iconst (v := 1) dX8_addDigit_32 (by decide) ?_
    refine uu_iadd dX8_addDigit_33 ?_
    refine uu_puti (ft := .int) (ci := 8) (N := 8) fX8_81 ptX8 (Or.inl rfl) (by decide) hk0.is (by decide) (by decide) (by decide +kernel) rfl rfl dX8_addDigit_34 ?_
    refine uu_iconst (v := 1) dX8_addDigit_37 (by decide) ?_
    have hr := Option.some.inj h
    subst hr
    exact uu_zret (x := bI true) rfl (bI_z _) dX8_addDigit_38
  · replace h := uu_pos c1 h
    refine uu_iconst (v := 0) dX8_addDigit_9 (by decide) ?_
    have hr := Option.some.inj h
    subst hr
    exact uu_zret (x := bI false) rfl (bI_z _) dX8_addDigit_10
abbrev mX8_inNumber : hM := (yX8_inNumber, cX8_inNumber, 2, (some (.int)))
theorem dX8_inNumber_0 : decode cX8_inNumber 0 = .ok (.iload_n 1, 1) := by decide +kernel
theorem lX8_84 : Cond.methodLink RX8 84 mX9_isDigit.1 ∈ lw_g := h_t7 3 rfl rfl
theorem dX8_inNumber_1 : decode cX8_inNumber 1 = .ok (.invokestatic 84, 3) := by decide +kernel
theorem dX8_inNumber_4 : decode cX8_inNumber 4 = .ok (.ifCond .ne 15, 3) := by decide +kernel
theorem dX8_inNumber_19 : decode cX8_inNumber 19 = .ok (.aload_n 0, 1) := by decide +kernel
theorem dX8_inNumber_20 : decode cX8_inNumber 20 = .ok (.iload_n 1, 1) := by decide +kernel
theorem kX8_addDigit : h_ml mX8_addDigit 1 := ⟨h_t7 16 rfl rfl, h_t1 7 rfl rfl, ⟨by decide, by decide, by decide +kernel⟩, by decide⟩
theorem lX8_100 : Cond.methodLink RX8 100 mX8_addDigit.1 ∈ lw_g := h_t7 13 rfl rfl
theorem sX8_addDigit : Cond.instanceMethod mX8_addDigit.1 ∈ lw_g ∧ Cond.selects mX8_addDigit.1.cls mX8_addDigit.1 mX8_addDigit.1 ∈ lw_g := ⟨h_t7 15 rfl rfl, h_ins 79 rfl⟩
theorem dX8_inNumber_21 : decode cX8_inNumber 21 = .ok (.invokevirtual 100, 3) := by decide +kernel
theorem dX8_inNumber_24 : decode cX8_inNumber 24 = .ok (.ifCond .eq 11, 3) := by decide +kernel
theorem dX8_inNumber_35 : decode cX8_inNumber 35 = .ok (.aload_n 0, 1) := by decide +kernel
theorem dX8_inNumber_36 : decode cX8_inNumber 36 = .ok (.iload_n 1, 1) := by decide +kernel
theorem dX8_inNumber_37 : decode cX8_inNumber 37 = .ok (.invokevirtual 58, 3) := by decide +kernel
theorem dX8_inNumber_40 : decode cX8_inNumber 40 = .ok (.ireturn, 1) := by decide +kernel
theorem dX8_inNumber_27 : decode cX8_inNumber 27 = .ok (.aload_n 0, 1) := by decide +kernel
theorem dX8_inNumber_28 : decode cX8_inNumber 28 = .ok (.iconst 4, 1) := by decide +kernel
theorem dX8_inNumber_29 : decode cX8_inNumber 29 = .ok (.invokevirtual 68, 3) := by decide +kernel
theorem dX8_inNumber_32 : decode cX8_inNumber 32 = .ok (.goto 8, 3) := by decide +kernel
theorem dX8_inNumber_7 : decode cX8_inNumber 7 = .ok (.aload_n 0, 1) := by decide +kernel
theorem dX8_inNumber_8 : decode cX8_inNumber 8 = .ok (.iconst 3, 1) := by decide +kernel
theorem kX8_closePart : h_ml mX8_closePart 1 := ⟨h_t7 11 rfl rfl, h_t1 7 rfl rfl, ⟨by decide, by decide, by decide +kernel⟩, by decide⟩
theorem lX8_87 : Cond.methodLink RX8 87 mX8_closePart.1 ∈ lw_g := h_t7 8 rfl rfl
theorem sX8_closePart : Cond.instanceMethod mX8_closePart.1 ∈ lw_g ∧ Cond.selects mX8_closePart.1.cls mX8_closePart.1 mX8_closePart.1 ∈ lw_g := ⟨h_t7 10 rfl rfl, h_ins 78 rfl⟩
theorem dX8_inNumber_9 : decode cX8_inNumber 9 = .ok (.invokevirtual 87, 3) := by decide +kernel
theorem dX8_inNumber_12 : decode cX8_inNumber 12 = .ok (.pop, 1) := by decide +kernel
theorem dX8_inNumber_13 : decode cX8_inNumber 13 = .ok (.aload_n 0, 1) := by decide +kernel
theorem dX8_inNumber_14 : decode cX8_inNumber 14 = .ok (.iload_n 1, 1) := by decide +kernel
theorem dX8_inNumber_15 : decode cX8_inNumber 15 = .ok (.invokevirtual 55, 3) := by decide +kernel
theorem dX8_inNumber_18 : decode cX8_inNumber 18 = .ok (.ireturn, 1) := by decide +kernel
def fn_X8_inNumber (k0 : Nat) (x1 : Int32) (s : uS) : Option (uS × Int32) := (fn_X9_isDigit x1 s).bind fun v1 => if v1 = true then ((fn_X8_addDigit k0 x1 s).bind fun r4 => if r4.2 = true then ((fn_X8_go k0 4 r4.1).bind fun r9 => some (r9.1, r9.2)) else ((fn_X8_passOver k0 x1 r4.1).bind fun r7 => some (r7.1, r7.2))) else ((fn_X8_closePart k0 3 s).bind fun r11 => (fn_X8_partEnd k0 x1 r11.1).bind fun r13 => some (r13.1, r13.2))
set_option maxRecDepth 100000 in
set_option maxHeartbeats 4000000 in
theorem xc_X8_inNumber {l : Launch} {D : va_G} {A : Nat → ClassId} {B : Nat} {Z : State → Heap → Prop} {vF : Value} (uk : uK B Z vF) {k0 : Nat} {x1 : Int32} {s : uS} {r : (uS × Int32)} (hk0 : uSo k0 8) (h : fn_X8_inNumber k0 x1 s = some r) : CU l D A B Z 3 mX8_inNumber s [.ref (B + k0), .int x1] (r.1, some (.int r.2)) := by
  unfold fn_X8_inNumber at h
  refine cu_of rfl uk.1.1 (Nat.le_of_ble_eq_true rfl) ?_
  show GU _ _ _ _ _ _ _ _ _ 0 [(0, .ref (B + k0)), (1, .int x1)] []
  refine uu_iload_n dX8_inNumber_0 rfl (List.mem_of_getElem? (i := 1) rfl) ?_
  obtain ⟨v1, e2, h⟩ := uu_ob h
  refine uu_cs (d1 := 0) (As := [.int x1]) (st := []) (st' := [.int (bI v1)]) (xc_X9_isDigit uk  e2) kX9_isDigit lX8_84 sX9_isDigit (by decide) (Nat.le_of_ble_eq_true rfl) dX8_inNumber_1 rfl ?_
  refine uu_ifb_ne (tgt := 19) dX8_inNumber_4 (by decide) (fun c3 => ?_) (fun c3 => ?_)
  · replace h := uu_pos c3 h
    refine uu_aload_n dX8_inNumber_19 rfl (List.mem_of_getElem? (i := 0) rfl) ?_
    refine uu_iload_n dX8_inNumber_20 rfl (List.mem_of_getElem? (i := 1) rfl) ?_
    obtain ⟨r4, e5, h⟩ := uu_ob h
    refine uu_cv (d1 := 0) (k := k0) (ci := 8) (T := TX8) (N := 8) (As := [.int x1]) (st := []) (st' := [.int (bI r4.2)]) (xc_X8_addDigit uk hk0 e5) hk0.is (by decide) rfl kX8_addDigit lX8_100 sX8_addDigit (by decide) (Nat.le_of_ble_eq_true rfl) dX8_inNumber_21 rfl ?_
    refine uu_ifb_eq (tgt := 35) dX8_inNumber_24 (by decide) (fun c6 => ?_) (fun c6 => ?_)
    · replace h := uu_neg c6 h
      refine uu_aload_n dX8_inNumber_35 rfl (List.mem_of_getElem? (i := 0) rfl) ?_
      refine uu_iload_n dX8_inNumber_36 rfl (List.mem_of_getElem? (i := 1) rfl) ?_
      obtain ⟨r7, e8, h⟩ := uu_ob h
      refine uu_cv (d1 := 1) (k := k0) (ci := 8) (T := TX8) (N := 8) (As := [.int x1]) (st := []) (st' := [.int r7.2]) (xc_X8_passOver uk hk0 e8) hk0.is (by decide) rfl kX8_passOver lX8_58 sX8_passOver (by decide) (Nat.le_of_ble_eq_true rfl) dX8_inNumber_37 rfl ?_
      have hr := Option.some.inj h
      subst hr
      exact uu_iret rfl dX8_inNumber_40
    · replace h := uu_pos c6 h
      refine uu_aload_n dX8_inNumber_27 rfl (List.mem_of_getElem? (i := 0) rfl) ?_
      refine uu_iconst (v := 4) dX8_inNumber_28 (by decide) ?_
      obtain ⟨r9, e10, h⟩ := uu_ob h
      refine uu_cv (d1 := 0) (k := k0) (ci := 8) (T := TX8) (N := 8) (As := [.int 4]) (st := []) (st' := [.int r9.2]) (xc_X8_go uk hk0 e10) hk0.is (by decide) rfl kX8_go lX8_68 sX8_go (by decide) (Nat.le_of_ble_eq_true rfl) dX8_inNumber_29 rfl ?_
      refine uu_goto (tgt := 40) dX8_inNumber_32 (by decide) ?_
      have hr := Option.some.inj h
      subst hr
      exact uu_iret rfl dX8_inNumber_40
  · replace h := uu_neg c3 h
    refine uu_aload_n dX8_inNumber_7 rfl (List.mem_of_getElem? (i := 0) rfl) ?_
    refine uu_iconst (v := 3) dX8_inNumber_8 (by decide) ?_
    obtain ⟨r11, e12, h⟩ := uu_ob h
    refine uu_cv (d1 := 1) (k := k0) (ci := 8) (T := TX8) (N := 8) (As := [.int 3]) (st := []) (st' := [.int r11.2]) (xc_X8_closePart uk hk0 e12) hk0.is (by decide) rfl kX8_closePart lX8_87 sX8_closePart (by decide) (Nat.le_of_ble_eq_true rfl) dX8_inNumber_9 rfl ?_
    refine uu_pop dX8_inNumber_12 rfl ?_
    refine uu_aload_n dX8_inNumber_13 rfl (List.mem_of_getElem? (i := 0) rfl) ?_
    refine uu_iload_n dX8_inNumber_14 rfl (List.mem_of_getElem? (i := 1) rfl) ?_
    obtain ⟨r13, e14, h⟩ := uu_ob h
    refine uu_cv (d1 := 2) (k := k0) (ci := 8) (T := TX8) (N := 8) (As := [.int x1]) (st := []) (st' := [.int r13.2]) (xc_X8_partEnd uk hk0 e14) hk0.is (by decide) rfl kX8_partEnd lX8_55 sX8_partEnd (by decide) (Nat.le_of_ble_eq_true rfl) dX8_inNumber_15 rfl ?_
    have hr := Option.some.inj h
    subst hr
    exact uu_iret rfl dX8_inNumber_18
abbrev mX8_partStart : hM := (yX8_partStart, cX8_partStart, 2, (some (.int)))
theorem dX8_partStart_0 : decode cX8_partStart 0 = .ok (.aload_n 0, 1) := by decide +kernel
theorem dX8_partStart_1 : decode cX8_partStart 1 = .ok (.iconst 0, 1) := by decide +kernel
theorem dX8_partStart_2 : decode cX8_partStart 2 = .ok (.putfield 78, 3) := by decide +kernel
theorem dX8_partStart_5 : decode cX8_partStart 5 = .ok (.aload_n 0, 1) := by decide +kernel
theorem dX8_partStart_6 : decode cX8_partStart 6 = .ok (.iconst 0, 1) := by decide +kernel
theorem dX8_partStart_7 : decode cX8_partStart 7 = .ok (.putfield 81, 3) := by decide +kernel
theorem dX8_partStart_10 : decode cX8_partStart 10 = .ok (.iload_n 1, 1) := by decide +kernel
theorem dX8_partStart_11 : decode cX8_partStart 11 = .ok (.bipush 34, 2) := by decide +kernel
theorem dX8_partStart_13 : decode cX8_partStart 13 = .ok (.if_icmp .ne 9, 3) := by decide +kernel
theorem dX8_partStart_22 : decode cX8_partStart 22 = .ok (.iload_n 1, 1) := by decide +kernel
theorem dX8_partStart_23 : decode cX8_partStart 23 = .ok (.bipush 123, 2) := by decide +kernel
theorem dX8_partStart_25 : decode cX8_partStart 25 = .ok (.if_icmp .ne 9, 3) := by decide +kernel
theorem dX8_partStart_34 : decode cX8_partStart 34 = .ok (.iload_n 1, 1) := by decide +kernel
theorem dX8_partStart_35 : decode cX8_partStart 35 = .ok (.invokestatic 84, 3) := by decide +kernel
theorem dX8_partStart_38 : decode cX8_partStart 38 = .ok (.ifCond .eq 11, 3) := by decide +kernel
theorem dX8_partStart_49 : decode cX8_partStart 49 = .ok (.aload_n 0, 1) := by decide +kernel
theorem dX8_partStart_50 : decode cX8_partStart 50 = .ok (.iload_n 1, 1) := by decide +kernel
theorem dX8_partStart_51 : decode cX8_partStart 51 = .ok (.invokevirtual 58, 3) := by decide +kernel
theorem dX8_partStart_54 : decode cX8_partStart 54 = .ok (.ireturn, 1) := by decide +kernel
theorem dX8_partStart_41 : decode cX8_partStart 41 = .ok (.aload_n 0, 1) := by decide +kernel
theorem dX8_partStart_42 : decode cX8_partStart 42 = .ok (.iload_n 1, 1) := by decide +kernel
theorem kX8_inNumber : h_ml mX8_inNumber 1 := ⟨h_t7 7 rfl rfl, h_t1 7 rfl rfl, ⟨by decide, by decide, by decide +kernel⟩, by decide⟩
theorem lX8_46 : Cond.methodLink RX8 46 mX8_inNumber.1 ∈ lw_g := h_t7 4 rfl rfl
theorem sX8_inNumber : Cond.instanceMethod mX8_inNumber.1 ∈ lw_g ∧ Cond.selects mX8_inNumber.1.cls mX8_inNumber.1 mX8_inNumber.1 ∈ lw_g := ⟨h_t7 6 rfl rfl, h_ins 77 rfl⟩
theorem dX8_partStart_43 : decode cX8_partStart 43 = .ok (.invokevirtual 46, 3) := by decide +kernel
theorem dX8_partStart_46 : decode cX8_partStart 46 = .ok (.goto 8, 3) := by decide +kernel
theorem dX8_partStart_28 : decode cX8_partStart 28 = .ok (.aload_n 0, 1) := by decide +kernel
theorem dX8_partStart_29 : decode cX8_partStart 29 = .ok (.iconst 5, 1) := by decide +kernel
theorem dX8_partStart_30 : decode cX8_partStart 30 = .ok (.invokevirtual 68, 3) := by decide +kernel
theorem dX8_partStart_33 : decode cX8_partStart 33 = .ok (.ireturn, 1) := by decide +kernel
theorem dX8_partStart_16 : decode cX8_partStart 16 = .ok (.aload_n 0, 1) := by decide +kernel
theorem dX8_partStart_17 : decode cX8_partStart 17 = .ok (.iconst 2, 1) := by decide +kernel
theorem dX8_partStart_18 : decode cX8_partStart 18 = .ok (.invokevirtual 68, 3) := by decide +kernel
theorem dX8_partStart_21 : decode cX8_partStart 21 = .ok (.ireturn, 1) := by decide +kernel
def fn_X8_partStart (k0 : Nat) (x1 : Int32) (s : uS) : Option (uS × Int32) := if x1 = 34 then ((fn_X8_go k0 2 (wI (wI s k0 1 0) k0 6 0)).bind fun r12 => some (r12.1, r12.2)) else (if x1 = 123 then ((fn_X8_go k0 5 (wI (wI s k0 1 0) k0 6 0)).bind fun r10 => some (r10.1, r10.2)) else ((fn_X9_isDigit x1 (wI (wI s k0 1 0) k0 6 0)).bind fun v3 => if v3 = true then ((fn_X8_inNumber k0 x1 (wI (wI s k0 1 0) k0 6 0)).bind fun r8 => some (r8.1, r8.2)) else ((fn_X8_passOver k0 x1 (wI (wI s k0 1 0) k0 6 0)).bind fun r6 => some (r6.1, r6.2))))
set_option maxRecDepth 100000 in
set_option maxHeartbeats 4000000 in
theorem xc_X8_partStart {l : Launch} {D : va_G} {A : Nat → ClassId} {B : Nat} {Z : State → Heap → Prop} {vF : Value} (uk : uK B Z vF) {k0 : Nat} {x1 : Int32} {s : uS} {r : (uS × Int32)} (hk0 : uSo k0 8) (h : fn_X8_partStart k0 x1 s = some r) : CU l D A B Z 4 mX8_partStart s [.ref (B + k0), .int x1] (r.1, some (.int r.2)) := by
  unfold fn_X8_partStart at h
  refine cu_of rfl uk.1.1 (Nat.le_of_ble_eq_true rfl) ?_
  show GU _ _ _ _ _ _ _ _ _ 0 [(0, .ref (B + k0)), (1, .int x1)] []
  refine uu_aload_n dX8_partStart_0 rfl (List.mem_of_getElem? (i := 0) rfl) ?_
  refine uu_iconst (v := 0) dX8_partStart_1 (by decide) ?_
  refine uu_puti (ft := .int) (ci := 8) (N := 8) fX8_78 ptX8 (Or.inl rfl) (by decide) hk0.is (by decide) (by decide) (by decide +kernel) rfl rfl dX8_partStart_2 ?_
  refine uu_aload_n dX8_partStart_5 rfl (List.mem_of_getElem? (i := 0) rfl) ?_
  refine uu_iconst (v := 0) dX8_partStart_6 (by decide) ?_
  refine uu_puti (ft := .int) (ci := 8) (N := 8) fX8_81 ptX8 (Or.inl rfl) (by decide) hk0.is (by decide) (by decide) (by decide +kernel) rfl rfl dX8_partStart_7 ?_
  refine uu_iload_n dX8_partStart_10 rfl (List.mem_of_getElem? (i := 1) rfl) ?_
  refine uu_bipush (v := 34) dX8_partStart_11 (by decide) ?_
  refine uu_icmp_ne (tgt := 22) dX8_partStart_13 (by decide) (fun c1 => ?_) (fun c1 => ?_)
  · replace h := uu_neg c1 h
    refine uu_iload_n dX8_partStart_22 rfl (List.mem_of_getElem? (i := 1) rfl) ?_
    refine uu_bipush (v := 123) dX8_partStart_23 (by decide) ?_
    refine uu_icmp_ne (tgt := 34) dX8_partStart_25 (by decide) (fun c2 => ?_) (fun c2 => ?_)
    · replace h := uu_neg c2 h
      refine uu_iload_n dX8_partStart_34 rfl (List.mem_of_getElem? (i := 1) rfl) ?_
      obtain ⟨v3, e4, h⟩ := uu_ob h
      refine uu_cs (d1 := 0) (As := [.int x1]) (st := []) (st' := [.int (bI v3)]) (xc_X9_isDigit uk  e4) kX9_isDigit lX8_84 sX9_isDigit (by decide) (Nat.le_of_ble_eq_true rfl) dX8_partStart_35 rfl ?_
      refine uu_ifb_eq (tgt := 49) dX8_partStart_38 (by decide) (fun c5 => ?_) (fun c5 => ?_)
      · replace h := uu_neg c5 h
        refine uu_aload_n dX8_partStart_49 rfl (List.mem_of_getElem? (i := 0) rfl) ?_
        refine uu_iload_n dX8_partStart_50 rfl (List.mem_of_getElem? (i := 1) rfl) ?_
        obtain ⟨r6, e7, h⟩ := uu_ob h
        refine uu_cv (d1 := 1) (k := k0) (ci := 8) (T := TX8) (N := 8) (As := [.int x1]) (st := []) (st' := [.int r6.2]) (xc_X8_passOver uk hk0 e7) hk0.is (by decide) rfl kX8_passOver lX8_58 sX8_passOver (by decide) (Nat.le_of_ble_eq_true rfl) dX8_partStart_51 rfl ?_
        have hr := Option.some.inj h
        subst hr
        exact uu_iret rfl dX8_partStart_54
      · replace h := uu_pos c5 h
        refine uu_aload_n dX8_partStart_41 rfl (List.mem_of_getElem? (i := 0) rfl) ?_
        refine uu_iload_n dX8_partStart_42 rfl (List.mem_of_getElem? (i := 1) rfl) ?_
        obtain ⟨r8, e9, h⟩ := uu_ob h
        refine uu_cv (d1 := 3) (k := k0) (ci := 8) (T := TX8) (N := 8) (As := [.int x1]) (st := []) (st' := [.int r8.2]) (xc_X8_inNumber uk hk0 e9) hk0.is (by decide) rfl kX8_inNumber lX8_46 sX8_inNumber (by decide) (Nat.le_of_ble_eq_true rfl) dX8_partStart_43 rfl ?_
        refine uu_goto (tgt := 54) dX8_partStart_46 (by decide) ?_
        have hr := Option.some.inj h
        subst hr
        exact uu_iret rfl dX8_partStart_54
    · replace h := uu_pos c2 h
      refine uu_aload_n dX8_partStart_28 rfl (List.mem_of_getElem? (i := 0) rfl) ?_
      refine uu_iconst (v := 5) dX8_partStart_29 (by decide) ?_
      obtain ⟨r10, e11, h⟩ := uu_ob h
      refine uu_cv (d1 := 0) (k := k0) (ci := 8) (T := TX8) (N := 8) (As := [.int 5]) (st := []) (st' := [.int r10.2]) (xc_X8_go uk hk0 e11) hk0.is (by decide) rfl kX8_go lX8_68 sX8_go (by decide) (Nat.le_of_ble_eq_true rfl) dX8_partStart_30 rfl ?_
      have hr := Option.some.inj h
      subst hr
      exact uu_iret rfl dX8_partStart_33
  · replace h := uu_pos c1 h
    refine uu_aload_n dX8_partStart_16 rfl (List.mem_of_getElem? (i := 0) rfl) ?_
    refine uu_iconst (v := 2) dX8_partStart_17 (by decide) ?_
    obtain ⟨r12, e13, h⟩ := uu_ob h
    refine uu_cv (d1 := 0) (k := k0) (ci := 8) (T := TX8) (N := 8) (As := [.int 2]) (st := []) (st' := [.int r12.2]) (xc_X8_go uk hk0 e13) hk0.is (by decide) rfl kX8_go lX8_68 sX8_go (by decide) (Nat.le_of_ble_eq_true rfl) dX8_partStart_18 rfl ?_
    have hr := Option.some.inj h
    subst hr
    exact uu_iret rfl dX8_partStart_21
abbrev mX8_inQuotes : hM := (yX8_inQuotes, cX8_inQuotes, 2, (some (.int)))
theorem dX8_inQuotes_12 : decode cX8_inQuotes 12 = .ok (.aload_n 0, 1) := by decide +kernel
theorem dX8_inQuotes_13 : decode cX8_inQuotes 13 = .ok (.iload_n 1, 1) := by decide +kernel
theorem dX8_inQuotes_14 : decode cX8_inQuotes 14 = .ok (.invokevirtual 58, 3) := by decide +kernel
theorem dX8_inQuotes_17 : decode cX8_inQuotes 17 = .ok (.ireturn, 1) := by decide +kernel
theorem dX8_inQuotes_58 : decode cX8_inQuotes 58 = .ok (.aload_n 0, 1) := by decide +kernel
theorem dX8_inQuotes_59 : decode cX8_inQuotes 59 = .ok (.getfield 14, 3) := by decide +kernel
theorem fX8_90 : h_fl RX8 90 9 5 RX9 TX9 6 := ⟨rfl, by decide, inX9, h_t1 93 rfl rfl⟩
theorem dX8_inQuotes_62 : decode cX8_inQuotes 62 = .ok (.getfield 90, 3) := by decide +kernel
theorem dX8_inQuotes_65 : decode cX8_inQuotes 65 = .ok (.aload_n 0, 1) := by decide +kernel
theorem dX8_inQuotes_66 : decode cX8_inQuotes 66 = .ok (.getfield 14, 3) := by decide +kernel
theorem fX8_93 : h_fl RX8 93 9 4 RX9 TX9 6 := ⟨rfl, by decide, inX9, h_t1 89 rfl rfl⟩
theorem dX8_inQuotes_69 : decode cX8_inQuotes 69 = .ok (.getfield 93, 3) := by decide +kernel
theorem dX8_inQuotes_72 : decode cX8_inQuotes 72 = .ok (.isub, 1) := by decide +kernel
theorem dX8_inQuotes_73 : decode cX8_inQuotes 73 = .ok (.sipush 200, 3) := by decide +kernel
theorem dX8_inQuotes_76 : decode cX8_inQuotes 76 = .ok (.if_icmp .ne 9, 3) := by decide +kernel
theorem dX8_inQuotes_85 : decode cX8_inQuotes 85 = .ok (.aload_n 0, 1) := by decide +kernel
theorem dX8_inQuotes_86 : decode cX8_inQuotes 86 = .ok (.getfield 14, 3) := by decide +kernel
theorem dX8_inQuotes_89 : decode cX8_inQuotes 89 = .ok (.iload_n 1, 1) := by decide +kernel
theorem lX8_96 : Cond.methodLink RX8 96 mX9_put.1 ∈ lw_g := h_t7 21 rfl rfl
theorem dX8_inQuotes_90 : decode cX8_inQuotes 90 = .ok (.invokevirtual 96, 3) := by decide +kernel
theorem dX8_inQuotes_93 : decode cX8_inQuotes 93 = .ok (.aload_n 0, 1) := by decide +kernel
theorem dX8_inQuotes_94 : decode cX8_inQuotes 94 = .ok (.iconst 2, 1) := by decide +kernel
theorem dX8_inQuotes_95 : decode cX8_inQuotes 95 = .ok (.invokevirtual 68, 3) := by decide +kernel
theorem dX8_inQuotes_98 : decode cX8_inQuotes 98 = .ok (.ireturn, 1) := by decide +kernel
theorem dX8_inQuotes_79 : decode cX8_inQuotes 79 = .ok (.aload_n 0, 1) := by decide +kernel
theorem dX8_inQuotes_80 : decode cX8_inQuotes 80 = .ok (.iload_n 1, 1) := by decide +kernel
theorem dX8_inQuotes_81 : decode cX8_inQuotes 81 = .ok (.invokevirtual 58, 3) := by decide +kernel
theorem dX8_inQuotes_84 : decode cX8_inQuotes 84 = .ok (.ireturn, 1) := by decide +kernel
theorem dX8_inQuotes_38 : decode cX8_inQuotes 38 = .ok (.aload_n 0, 1) := by decide +kernel
theorem dX8_inQuotes_39 : decode cX8_inQuotes 39 = .ok (.getfield 33, 3) := by decide +kernel
theorem dX8_inQuotes_42 : decode cX8_inQuotes 42 = .ok (.iconst 2, 1) := by decide +kernel
theorem dX8_inQuotes_43 : decode cX8_inQuotes 43 = .ok (.if_icmp .ne 15, 3) := by decide +kernel
theorem dX8_inQuotes_46 : decode cX8_inQuotes 46 = .ok (.iload_n 1, 1) := by decide +kernel
theorem dX8_inQuotes_47 : decode cX8_inQuotes 47 = .ok (.bipush 92, 2) := by decide +kernel
theorem dX8_inQuotes_49 : decode cX8_inQuotes 49 = .ok (.if_icmp .ne 9, 3) := by decide +kernel
theorem dX8_inQuotes_52 : decode cX8_inQuotes 52 = .ok (.aload_n 0, 1) := by decide +kernel
theorem dX8_inQuotes_53 : decode cX8_inQuotes 53 = .ok (.iconst 3, 1) := by decide +kernel
theorem dX8_inQuotes_54 : decode cX8_inQuotes 54 = .ok (.invokevirtual 68, 3) := by decide +kernel
theorem dX8_inQuotes_57 : decode cX8_inQuotes 57 = .ok (.ireturn, 1) := by decide +kernel
theorem dX8_inQuotes_0 : decode cX8_inQuotes 0 = .ok (.iload_n 1, 1) := by decide +kernel
theorem dX8_inQuotes_1 : decode cX8_inQuotes 1 = .ok (.bipush 13, 2) := by decide +kernel
theorem dX8_inQuotes_3 : decode cX8_inQuotes 3 = .ok (.if_icmp .eq 9, 3) := by decide +kernel
theorem dX8_inQuotes_6 : decode cX8_inQuotes 6 = .ok (.iload_n 1, 1) := by decide +kernel
theorem dX8_inQuotes_7 : decode cX8_inQuotes 7 = .ok (.bipush 10, 2) := by decide +kernel
theorem dX8_inQuotes_9 : decode cX8_inQuotes 9 = .ok (.if_icmp .ne 9, 3) := by decide +kernel
theorem dX8_inQuotes_18 : decode cX8_inQuotes 18 = .ok (.aload_n 0, 1) := by decide +kernel
theorem dX8_inQuotes_19 : decode cX8_inQuotes 19 = .ok (.getfield 33, 3) := by decide +kernel
theorem dX8_inQuotes_22 : decode cX8_inQuotes 22 = .ok (.iconst 2, 1) := by decide +kernel
theorem dX8_inQuotes_23 : decode cX8_inQuotes 23 = .ok (.if_icmp .ne 15, 3) := by decide +kernel
theorem dX8_inQuotes_26 : decode cX8_inQuotes 26 = .ok (.iload_n 1, 1) := by decide +kernel
theorem dX8_inQuotes_27 : decode cX8_inQuotes 27 = .ok (.bipush 34, 2) := by decide +kernel
theorem dX8_inQuotes_29 : decode cX8_inQuotes 29 = .ok (.if_icmp .ne 9, 3) := by decide +kernel
theorem dX8_inQuotes_32 : decode cX8_inQuotes 32 = .ok (.aload_n 0, 1) := by decide +kernel
theorem dX8_inQuotes_33 : decode cX8_inQuotes 33 = .ok (.iconst 2, 1) := by decide +kernel
theorem dX8_inQuotes_34 : decode cX8_inQuotes 34 = .ok (.invokevirtual 87, 3) := by decide +kernel
theorem dX8_inQuotes_37 : decode cX8_inQuotes 37 = .ok (.ireturn, 1) := by decide +kernel
def fb_X8_inQuotes_12  (k0 : Nat) (x1 : Int32) (s : uS) : Option (uS × Int32) := (fn_X8_passOver k0 x1 s).bind fun r1 => some (r1.1, r1.2)
set_option maxRecDepth 100000 in
set_option maxHeartbeats 4000000 in
theorem xb_X8_inQuotes_12 {l : Launch} {D : va_G} {A : Nat → ClassId} {B : Nat} {Z : State → Heap → Prop} {vF : Value} (uk : uK B Z vF)   {k0 : Nat} {x1 : Int32} {s : uS} {r : (uS × Int32)} (hk0 : uSo k0 8) (h : fb_X8_inQuotes_12  k0 x1 s = some r) : GU l D A B Z mX8_inQuotes 2 (r.1, some (.int r.2)) s 12 [(0, .ref (B + k0)), (1, .int x1)] [] := by
  unfold fb_X8_inQuotes_12 at h
  refine uu_aload_n dX8_inQuotes_12 rfl (List.mem_of_getElem? (i := 0) rfl) ?_
  refine uu_iload_n dX8_inQuotes_13 rfl (List.mem_of_getElem? (i := 1) rfl) ?_
  obtain ⟨r1, e2, h⟩ := uu_ob h
  refine uu_cv (d1 := 1) (k := k0) (ci := 8) (T := TX8) (N := 8) (As := [.int x1]) (st := []) (st' := [.int r1.2]) (xc_X8_passOver uk hk0 e2) hk0.is (by decide) rfl kX8_passOver lX8_58 sX8_passOver (by decide) (Nat.le_of_ble_eq_true rfl) dX8_inQuotes_14 rfl ?_
  have hr := Option.some.inj h
  subst hr
  exact uu_iret rfl dX8_inQuotes_17
def fb_X8_inQuotes_58  (k0 : Nat) (x1 : Int32) (s : uS) : Option (uS × Int32) := if ((s.I (k0 + 1) 5) - (s.I (k0 + 1) 4)) = 200 then ((fn_X8_passOver k0 x1 s).bind fun r6 => some (r6.1, r6.2)) else ((fn_X9_put (k0 + 1) x1 s).bind fun s2 => (fn_X8_go k0 2 s2).bind fun r4 => some (r4.1, r4.2))
set_option maxRecDepth 100000 in
set_option maxHeartbeats 4000000 in
theorem xb_X8_inQuotes_58 {l : Launch} {D : va_G} {A : Nat → ClassId} {B : Nat} {Z : State → Heap → Prop} {vF : Value} (uk : uK B Z vF)   {k0 : Nat} {x1 : Int32} {s : uS} {r : (uS × Int32)} (hk0 : uSo k0 8) (h : fb_X8_inQuotes_58  k0 x1 s = some r) : GU l D A B Z mX8_inQuotes 2 (r.1, some (.int r.2)) s 58 [(0, .ref (B + k0)), (1, .int x1)] [] := by
  unfold fb_X8_inQuotes_58 at h
  refine uu_aload_n dX8_inQuotes_58 rfl (List.mem_of_getElem? (i := 0) rfl) ?_
  refine uu_getc (ci := 8) (N := 8) fX8_14 (by decide) hk0.is (by decide) (c := 1) (by decide) (k2 := k0 + 1) rfl dX8_inQuotes_59 ?_
  refine uu_geti (ci := 9) (N := 6) fX8_90 (by decide) (so_parts hk0).is (by decide) (by decide) dX8_inQuotes_62 ?_
  refine uu_aload_n dX8_inQuotes_65 rfl (List.mem_of_getElem? (i := 0) rfl) ?_
  refine uu_getc (ci := 8) (N := 8) fX8_14 (by decide) hk0.is (by decide) (c := 1) (by decide) (k2 := k0 + 1) rfl dX8_inQuotes_66 ?_
  refine uu_geti (ci := 9) (N := 6) fX8_93 (by decide) (so_parts hk0).is (by decide) (by decide) dX8_inQuotes_69 ?_
  refine uu_isub dX8_inQuotes_72 ?_
  refine uu_sipush (v := 200) dX8_inQuotes_73 (by decide) ?_
  refine uu_icmp_ne (tgt := 85) dX8_inQuotes_76 (by decide) (fun c1 => ?_) (fun c1 => ?_)
  · replace h := uu_neg c1 h
    refine uu_aload_n dX8_inQuotes_85 rfl (List.mem_of_getElem? (i := 0) rfl) ?_
    refine uu_getc (ci := 8) (N := 8) fX8_14 (by decide) hk0.is (by decide) (c := 1) (by decide) (k2 := k0 + 1) rfl dX8_inQuotes_86 ?_
    refine uu_iload_n dX8_inQuotes_89 rfl (List.mem_of_getElem? (i := 1) rfl) ?_
    obtain ⟨s2, e3, h⟩ := uu_ob h
    refine uu_cv (d1 := 0) (k := k0 + 1) (ci := 9) (T := TX9) (N := 6) (As := [.int x1]) (st := []) (st' := []) (xc_X9_put uk (so_parts hk0) e3) (so_parts hk0).is (by decide) rfl kX9_put lX8_96 sX9_put (by decide) (Nat.le_of_ble_eq_true rfl) dX8_inQuotes_90 rfl ?_
    refine uu_aload_n dX8_inQuotes_93 rfl (List.mem_of_getElem? (i := 0) rfl) ?_
    refine uu_iconst (v := 2) dX8_inQuotes_94 (by decide) ?_
    obtain ⟨r4, e5, h⟩ := uu_ob h
    refine uu_cv (d1 := 0) (k := k0) (ci := 8) (T := TX8) (N := 8) (As := [.int 2]) (st := []) (st' := [.int r4.2]) (xc_X8_go uk hk0 e5) hk0.is (by decide) rfl kX8_go lX8_68 sX8_go (by decide) (Nat.le_of_ble_eq_true rfl) dX8_inQuotes_95 rfl ?_
    have hr := Option.some.inj h
    subst hr
    exact uu_iret rfl dX8_inQuotes_98
  · replace h := uu_pos c1 h
    refine uu_aload_n dX8_inQuotes_79 rfl (List.mem_of_getElem? (i := 0) rfl) ?_
    refine uu_iload_n dX8_inQuotes_80 rfl (List.mem_of_getElem? (i := 1) rfl) ?_
    obtain ⟨r6, e7, h⟩ := uu_ob h
    refine uu_cv (d1 := 1) (k := k0) (ci := 8) (T := TX8) (N := 8) (As := [.int x1]) (st := []) (st' := [.int r6.2]) (xc_X8_passOver uk hk0 e7) hk0.is (by decide) rfl kX8_passOver lX8_58 sX8_passOver (by decide) (Nat.le_of_ble_eq_true rfl) dX8_inQuotes_81 rfl ?_
    have hr := Option.some.inj h
    subst hr
    exact uu_iret rfl dX8_inQuotes_84
def fb_X8_inQuotes_38  (k0 : Nat) (x1 : Int32) (s : uS) : Option (uS × Int32) := if (s.I k0 5) = 2 then (if x1 = 92 then ((fn_X8_go k0 3 s).bind fun r3 => some (r3.1, r3.2)) else (fb_X8_inQuotes_58 k0 x1 s)) else (fb_X8_inQuotes_58 k0 x1 s)
set_option maxRecDepth 100000 in
set_option maxHeartbeats 4000000 in
theorem xb_X8_inQuotes_38 {l : Launch} {D : va_G} {A : Nat → ClassId} {B : Nat} {Z : State → Heap → Prop} {vF : Value} (uk : uK B Z vF)   {k0 : Nat} {x1 : Int32} {s : uS} {r : (uS × Int32)} (hk0 : uSo k0 8) (h : fb_X8_inQuotes_38  k0 x1 s = some r) : GU l D A B Z mX8_inQuotes 2 (r.1, some (.int r.2)) s 38 [(0, .ref (B + k0)), (1, .int x1)] [] := by
  unfold fb_X8_inQuotes_38 at h
  refine uu_aload_n dX8_inQuotes_38 rfl (List.mem_of_getElem? (i := 0) rfl) ?_
  refine uu_geti (ci := 8) (N := 8) fX8_33 (by decide) hk0.is (by decide) (by decide) dX8_inQuotes_39 ?_
  refine uu_iconst (v := 2) dX8_inQuotes_42 (by decide) ?_
  refine uu_icmp_ne (tgt := 58) dX8_inQuotes_43 (by decide) (fun c1 => ?_) (fun c1 => ?_)
  · replace h := uu_neg c1 h
    exact xb_X8_inQuotes_58 uk hk0 h
  · replace h := uu_pos c1 h
    refine uu_iload_n dX8_inQuotes_46 rfl (List.mem_of_getElem? (i := 1) rfl) ?_
    refine uu_bipush (v := 92) dX8_inQuotes_47 (by decide) ?_
    refine uu_icmp_ne (tgt := 58) dX8_inQuotes_49 (by decide) (fun c2 => ?_) (fun c2 => ?_)
    · replace h := uu_neg c2 h
      exact xb_X8_inQuotes_58 uk hk0 h
    · replace h := uu_pos c2 h
      refine uu_aload_n dX8_inQuotes_52 rfl (List.mem_of_getElem? (i := 0) rfl) ?_
      refine uu_iconst (v := 3) dX8_inQuotes_53 (by decide) ?_
      obtain ⟨r3, e4, h⟩ := uu_ob h
      refine uu_cv (d1 := 0) (k := k0) (ci := 8) (T := TX8) (N := 8) (As := [.int 3]) (st := []) (st' := [.int r3.2]) (xc_X8_go uk hk0 e4) hk0.is (by decide) rfl kX8_go lX8_68 sX8_go (by decide) (Nat.le_of_ble_eq_true rfl) dX8_inQuotes_54 rfl ?_
      have hr := Option.some.inj h
      subst hr
      exact uu_iret rfl dX8_inQuotes_57
def fn_X8_inQuotes (k0 : Nat) (x1 : Int32) (s : uS) : Option (uS × Int32) := if x1 = 13 then (fb_X8_inQuotes_12 k0 x1 s) else (if x1 = 10 then (fb_X8_inQuotes_12 k0 x1 s) else (if (s.I k0 5) = 2 then (if x1 = 34 then ((fn_X8_closePart k0 2 s).bind fun r5 => some (r5.1, r5.2)) else (fb_X8_inQuotes_38 k0 x1 s)) else (fb_X8_inQuotes_38 k0 x1 s)))
set_option maxRecDepth 100000 in
set_option maxHeartbeats 4000000 in
theorem xc_X8_inQuotes {l : Launch} {D : va_G} {A : Nat → ClassId} {B : Nat} {Z : State → Heap → Prop} {vF : Value} (uk : uK B Z vF) {k0 : Nat} {x1 : Int32} {s : uS} {r : (uS × Int32)} (hk0 : uSo k0 8) (h : fn_X8_inQuotes k0 x1 s = some r) : CU l D A B Z 2 mX8_inQuotes s [.ref (B + k0), .int x1] (r.1, some (.int r.2)) := by
  unfold fn_X8_inQuotes at h
  refine cu_of rfl uk.1.1 (Nat.le_of_ble_eq_true rfl) ?_
  show GU _ _ _ _ _ _ _ _ _ 0 [(0, .ref (B + k0)), (1, .int x1)] []
  refine uu_iload_n dX8_inQuotes_0 rfl (List.mem_of_getElem? (i := 1) rfl) ?_
  refine uu_bipush (v := 13) dX8_inQuotes_1 (by decide) ?_
  refine uu_icmp_eq (tgt := 12) dX8_inQuotes_3 (by decide) (fun c1 => ?_) (fun c1 => ?_)
  · replace h := uu_pos c1 h
    exact xb_X8_inQuotes_12 uk hk0 h
  · replace h := uu_neg c1 h
    refine uu_iload_n dX8_inQuotes_6 rfl (List.mem_of_getElem? (i := 1) rfl) ?_
    refine uu_bipush (v := 10) dX8_inQuotes_7 (by decide) ?_
    refine uu_icmp_ne (tgt := 18) dX8_inQuotes_9 (by decide) (fun c2 => ?_) (fun c2 => ?_)
    · replace h := uu_neg c2 h
      refine uu_aload_n dX8_inQuotes_18 rfl (List.mem_of_getElem? (i := 0) rfl) ?_
      refine uu_geti (ci := 8) (N := 8) fX8_33 (by decide) hk0.is (by decide) (by decide) dX8_inQuotes_19 ?_
      refine uu_iconst (v := 2) dX8_inQuotes_22 (by decide) ?_
      refine uu_icmp_ne (tgt := 38) dX8_inQuotes_23 (by decide) (fun c3 => ?_) (fun c3 => ?_)
      · replace h := uu_neg c3 h
        exact xb_X8_inQuotes_38 uk hk0 h
      · replace h := uu_pos c3 h
        refine uu_iload_n dX8_inQuotes_26 rfl (List.mem_of_getElem? (i := 1) rfl) ?_
        refine uu_bipush (v := 34) dX8_inQuotes_27 (by decide) ?_
        refine uu_icmp_ne (tgt := 38) dX8_inQuotes_29 (by decide) (fun c4 => ?_) (fun c4 => ?_)
        · replace h := uu_neg c4 h
          exact xb_X8_inQuotes_38 uk hk0 h
        · replace h := uu_pos c4 h
          refine uu_aload_n dX8_inQuotes_32 rfl (List.mem_of_getElem? (i := 0) rfl) ?_
          refine uu_iconst (v := 2) dX8_inQuotes_33 (by decide) ?_
          obtain ⟨r5, e6, h⟩ := uu_ob h
          refine uu_cv (d1 := 1) (k := k0) (ci := 8) (T := TX8) (N := 8) (As := [.int 2]) (st := []) (st' := [.int r5.2]) (xc_X8_closePart uk hk0 e6) hk0.is (by decide) rfl kX8_closePart lX8_87 sX8_closePart (by decide) (Nat.le_of_ble_eq_true rfl) dX8_inQuotes_34 rfl ?_
          have hr := Option.some.inj h
          subst hr
          exact uu_iret rfl dX8_inQuotes_37
    · replace h := uu_pos c2 h
      exact xb_X8_inQuotes_12 uk hk0 h
