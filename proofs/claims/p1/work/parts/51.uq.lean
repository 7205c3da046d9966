abbrev mX12_numeric : hM := (yX12_numeric, cX12_numeric, 6, (some (.int)))
theorem dX12_numeric_40 : decode cX12_numeric 40 = .ok (.iload_n 1, 1) := by decide +kernel
theorem dX12_numeric_41 : decode cX12_numeric 41 = .ok (.ifCond .ne 7, 3) := by decide +kernel
theorem dX12_numeric_48 : decode cX12_numeric 48 = .ok (.iconst (-1), 1) := by decide +kernel
theorem dX12_numeric_49 : decode cX12_numeric 49 = .ok (.ireturn, 1) := by decide +kernel
theorem dX12_numeric_44 : decode cX12_numeric 44 = .ok (.iconst 1, 1) := by decide +kernel
theorem dX12_numeric_45 : decode cX12_numeric 45 = .ok (.goto 4, 3) := by decide +kernel
theorem dX12_numeric_28 : decode cX12_numeric 28 = .ok (.iload_n 1, 1) := by decide +kernel
theorem dX12_numeric_29 : decode cX12_numeric 29 = .ok (.ifCond .ne 11, 3) := by decide +kernel
theorem dX12_numeric_32 : decode cX12_numeric 32 = .ok (.iload_n 2, 1) := by decide +kernel
theorem dX12_numeric_33 : decode cX12_numeric 33 = .ok (.ifCond .ne 7, 3) := by decide +kernel
theorem dX12_numeric_36 : decode cX12_numeric 36 = .ok (.iconst 0, 1) := by decide +kernel
theorem dX12_numeric_37 : decode cX12_numeric 37 = .ok (.goto 12, 3) := by decide +kernel
theorem dX12_numeric_138 : decode cX12_numeric 138 = .ok (.iload 5, 2) := by decide +kernel
theorem dX12_numeric_140 : decode cX12_numeric 140 = .ok (.iload_n 1, 1) := by decide +kernel
theorem dX12_numeric_141 : decode cX12_numeric 141 = .ok (.iload_n 3, 1) := by decide +kernel
theorem dX12_numeric_142 : decode cX12_numeric 142 = .ok (.isub, 1) := by decide +kernel
theorem dX12_numeric_143 : decode cX12_numeric 143 = .ok (.if_icmp .ge 59, 3) := by decide +kernel
theorem dX12_numeric_202 : decode cX12_numeric 202 = .ok (.iconst 0, 1) := by decide +kernel
theorem dX12_numeric_203 : decode cX12_numeric 203 = .ok (.ireturn, 1) := by decide +kernel
theorem dX12_numeric_146 : decode cX12_numeric 146 = .ok (.aload_n 0, 1) := by decide +kernel
theorem dX12_numeric_147 : decode cX12_numeric 147 = .ok (.getfield 116, 3) := by decide +kernel
theorem dX12_numeric_150 : decode cX12_numeric 150 = .ok (.iload_n 3, 1) := by decide +kernel
theorem dX12_numeric_151 : decode cX12_numeric 151 = .ok (.iload 5, 2) := by decide +kernel
theorem dX12_numeric_153 : decode cX12_numeric 153 = .ok (.iadd, 1) := by decide +kernel
theorem dX12_numeric_154 : decode cX12_numeric 154 = .ok (.iaload, 1) := by decide +kernel
theorem dX12_numeric_155 : decode cX12_numeric 155 = .ok (.aload_n 0, 1) := by decide +kernel
theorem dX12_numeric_156 : decode cX12_numeric 156 = .ok (.getfield 122, 3) := by decide +kernel
theorem dX12_numeric_159 : decode cX12_numeric 159 = .ok (.iload 4, 2) := by decide +kernel
theorem dX12_numeric_161 : decode cX12_numeric 161 = .ok (.iload 5, 2) := by decide +kernel
theorem dX12_numeric_163 : decode cX12_numeric 163 = .ok (.iadd, 1) := by decide +kernel
theorem dX12_numeric_164 : decode cX12_numeric 164 = .ok (.iaload, 1) := by decide +kernel
theorem dX12_numeric_165 : decode cX12_numeric 165 = .ok (.if_icmp .eq 31, 3) := by decide +kernel
theorem dX12_numeric_196 : decode cX12_numeric 196 = .ok (.iinc 5 1, 3) := by decide +kernel
theorem dX12_numeric_199 : decode cX12_numeric 199 = .ok (.goto (-61), 3) := by decide +kernel
theorem dX12_numeric_168 : decode cX12_numeric 168 = .ok (.aload_n 0, 1) := by decide +kernel
theorem dX12_numeric_169 : decode cX12_numeric 169 = .ok (.getfield 116, 3) := by decide +kernel
theorem dX12_numeric_172 : decode cX12_numeric 172 = .ok (.iload_n 3, 1) := by decide +kernel
theorem dX12_numeric_173 : decode cX12_numeric 173 = .ok (.iload 5, 2) := by decide +kernel
theorem dX12_numeric_175 : decode cX12_numeric 175 = .ok (.iadd, 1) := by decide +kernel
theorem dX12_numeric_176 : decode cX12_numeric 176 = .ok (.iaload, 1) := by decide +kernel
theorem dX12_numeric_177 : decode cX12_numeric 177 = .ok (.aload_n 0, 1) := by decide +kernel
theorem dX12_numeric_178 : decode cX12_numeric 178 = .ok (.getfield 122, 3) := by decide +kernel
theorem dX12_numeric_181 : decode cX12_numeric 181 = .ok (.iload 4, 2) := by decide +kernel
theorem dX12_numeric_183 : decode cX12_numeric 183 = .ok (.iload 5, 2) := by decide +kernel
theorem dX12_numeric_185 : decode cX12_numeric 185 = .ok (.iadd, 1) := by decide +kernel
theorem dX12_numeric_186 : decode cX12_numeric 186 = .ok (.iaload, 1) := by decide +kernel
theorem dX12_numeric_187 : decode cX12_numeric 187 = .ok (.if_icmp .ge 7, 3) := by decide +kernel
theorem dX12_numeric_194 : decode cX12_numeric 194 = .ok (.iconst 1, 1) := by decide +kernel
theorem dX12_numeric_195 : decode cX12_numeric 195 = .ok (.ireturn, 1) := by decide +kernel
theorem dX12_numeric_190 : decode cX12_numeric 190 = .ok (.iconst (-1), 1) := by decide +kernel
theorem dX12_numeric_191 : decode cX12_numeric 191 = .ok (.goto 4, 3) := by decide +kernel
theorem dX12_numeric_109 : decode cX12_numeric 109 = .ok (.iload_n 1, 1) := by decide +kernel
theorem dX12_numeric_110 : decode cX12_numeric 110 = .ok (.iload_n 3, 1) := by decide +kernel
theorem dX12_numeric_111 : decode cX12_numeric 111 = .ok (.isub, 1) := by decide +kernel
theorem dX12_numeric_112 : decode cX12_numeric 112 = .ok (.iload_n 2, 1) := by decide +kernel
theorem dX12_numeric_113 : decode cX12_numeric 113 = .ok (.iload 4, 2) := by decide +kernel
theorem dX12_numeric_115 : decode cX12_numeric 115 = .ok (.isub, 1) := by decide +kernel
theorem dX12_numeric_116 : decode cX12_numeric 116 = .ok (.if_icmp .eq 19, 3) := by decide +kernel
theorem dX12_numeric_135 : decode cX12_numeric 135 = .ok (.iconst 0, 1) := by decide +kernel
theorem dX12_numeric_136 : decode cX12_numeric 136 = .ok (.istore 5, 2) := by decide +kernel
theorem dX12_numeric_119 : decode cX12_numeric 119 = .ok (.iload_n 1, 1) := by decide +kernel
theorem dX12_numeric_120 : decode cX12_numeric 120 = .ok (.iload_n 3, 1) := by decide +kernel
theorem dX12_numeric_121 : decode cX12_numeric 121 = .ok (.isub, 1) := by decide +kernel
theorem dX12_numeric_122 : decode cX12_numeric 122 = .ok (.iload_n 2, 1) := by decide +kernel
theorem dX12_numeric_123 : decode cX12_numeric 123 = .ok (.iload 4, 2) := by decide +kernel
theorem dX12_numeric_125 : decode cX12_numeric 125 = .ok (.isub, 1) := by decide +kernel
theorem dX12_numeric_126 : decode cX12_numeric 126 = .ok (.if_icmp .ge 7, 3) := by decide +kernel
theorem dX12_numeric_133 : decode cX12_numeric 133 = .ok (.iconst 1, 1) := by decide +kernel
theorem dX12_numeric_134 : decode cX12_numeric 134 = .ok (.ireturn, 1) := by decide +kernel
theorem dX12_numeric_129 : decode cX12_numeric 129 = .ok (.iconst (-1), 1) := by decide +kernel
theorem dX12_numeric_130 : decode cX12_numeric 130 = .ok (.goto 4, 3) := by decide +kernel
theorem dX12_numeric_80 : decode cX12_numeric 80 = .ok (.iload 4, 2) := by decide +kernel
theorem dX12_numeric_82 : decode cX12_numeric 82 = .ok (.iload_n 2, 1) := by decide +kernel
theorem dX12_numeric_83 : decode cX12_numeric 83 = .ok (.iconst 1, 1) := by decide +kernel
theorem dX12_numeric_84 : decode cX12_numeric 84 = .ok (.isub, 1) := by decide +kernel
theorem dX12_numeric_85 : decode cX12_numeric 85 = .ok (.if_icmp .ge 24, 3) := by decide +kernel
theorem dX12_numeric_88 : decode cX12_numeric 88 = .ok (.aload_n 0, 1) := by decide +kernel
theorem dX12_numeric_89 : decode cX12_numeric 89 = .ok (.getfield 122, 3) := by decide +kernel
theorem dX12_numeric_92 : decode cX12_numeric 92 = .ok (.iload 4, 2) := by decide +kernel
theorem dX12_numeric_94 : decode cX12_numeric 94 = .ok (.iaload, 1) := by decide +kernel
theorem dX12_numeric_95 : decode cX12_numeric 95 = .ok (.bipush 48, 2) := by decide +kernel
theorem dX12_numeric_97 : decode cX12_numeric 97 = .ok (.if_icmp .ne 12, 3) := by decide +kernel
theorem dX12_numeric_100 : decode cX12_numeric 100 = .ok (.iload 4, 2) := by decide +kernel
theorem dX12_numeric_102 : decode cX12_numeric 102 = .ok (.iconst 1, 1) := by decide +kernel
theorem dX12_numeric_103 : decode cX12_numeric 103 = .ok (.iadd, 1) := by decide +kernel
theorem dX12_numeric_104 : decode cX12_numeric 104 = .ok (.istore 4, 2) := by decide +kernel
theorem dX12_numeric_106 : decode cX12_numeric 106 = .ok (.goto (-26), 3) := by decide +kernel
theorem dX12_numeric_55 : decode cX12_numeric 55 = .ok (.iload_n 3, 1) := by decide +kernel
theorem dX12_numeric_56 : decode cX12_numeric 56 = .ok (.iload_n 1, 1) := by decide +kernel
theorem dX12_numeric_57 : decode cX12_numeric 57 = .ok (.iconst 1, 1) := by decide +kernel
theorem dX12_numeric_58 : decode cX12_numeric 58 = .ok (.isub, 1) := by decide +kernel
theorem dX12_numeric_59 : decode cX12_numeric 59 = .ok (.if_icmp .ge 21, 3) := by decide +kernel
theorem dX12_numeric_62 : decode cX12_numeric 62 = .ok (.aload_n 0, 1) := by decide +kernel
theorem dX12_numeric_63 : decode cX12_numeric 63 = .ok (.getfield 116, 3) := by decide +kernel
theorem dX12_numeric_66 : decode cX12_numeric 66 = .ok (.iload_n 3, 1) := by decide +kernel
theorem dX12_numeric_67 : decode cX12_numeric 67 = .ok (.iaload, 1) := by decide +kernel
theorem dX12_numeric_68 : decode cX12_numeric 68 = .ok (.bipush 48, 2) := by decide +kernel
theorem dX12_numeric_70 : decode cX12_numeric 70 = .ok (.if_icmp .ne 10, 3) := by decide +kernel
theorem dX12_numeric_73 : decode cX12_numeric 73 = .ok (.iload_n 3, 1) := by decide +kernel
theorem dX12_numeric_74 : decode cX12_numeric 74 = .ok (.iconst 1, 1) := by decide +kernel
theorem dX12_numeric_75 : decode cX12_numeric 75 = .ok (.iadd, 1) := by decide +kernel
theorem dX12_numeric_76 : decode cX12_numeric 76 = .ok (.istore_n 3, 1) := by decide +kernel
theorem dX12_numeric_77 : decode cX12_numeric 77 = .ok (.goto (-22), 3) := by decide +kernel
theorem dX12_numeric_0 : decode cX12_numeric 0 = .ok (.aload_n 0, 1) := by decide +kernel
theorem dX12_numeric_1 : decode cX12_numeric 1 = .ok (.aload_n 0, 1) := by decide +kernel
theorem dX12_numeric_2 : decode cX12_numeric 2 = .ok (.getfield 110, 3) := by decide +kernel
theorem dX12_numeric_5 : decode cX12_numeric 5 = .ok (.iconst 0, 1) := by decide +kernel
theorem kX12_digitsOf : h_ml mX12_digitsOf 2 := ⟨h_t9 122 rfl rfl, h_t1 16 rfl rfl, ⟨by decide, by decide, by decide +kernel⟩, by decide⟩
theorem lX12_603 : Cond.methodLink RX12 603 mX12_digitsOf.1 ∈ lw_g := h_t9 119 rfl rfl
theorem sX12_digitsOf : Cond.instanceMethod mX12_digitsOf.1 ∈ lw_g ∧ Cond.selects mX12_digitsOf.1.cls mX12_digitsOf.1 mX12_digitsOf.1 ∈ lw_g := ⟨h_t9 121 rfl rfl, h_ins 174 rfl⟩
theorem dX12_numeric_6 : decode cX12_numeric 6 = .ok (.invokevirtual 603, 3) := by decide +kernel
theorem dX12_numeric_9 : decode cX12_numeric 9 = .ok (.istore_n 1, 1) := by decide +kernel
theorem dX12_numeric_10 : decode cX12_numeric 10 = .ok (.aload_n 0, 1) := by decide +kernel
theorem dX12_numeric_11 : decode cX12_numeric 11 = .ok (.aload_n 0, 1) := by decide +kernel
theorem dX12_numeric_12 : decode cX12_numeric 12 = .ok (.getfield 113, 3) := by decide +kernel
theorem dX12_numeric_15 : decode cX12_numeric 15 = .ok (.iconst 1, 1) := by decide +kernel
theorem dX12_numeric_16 : decode cX12_numeric 16 = .ok (.invokevirtual 603, 3) := by decide +kernel
theorem dX12_numeric_19 : decode cX12_numeric 19 = .ok (.istore_n 2, 1) := by decide +kernel
theorem dX12_numeric_20 : decode cX12_numeric 20 = .ok (.iload_n 1, 1) := by decide +kernel
theorem dX12_numeric_21 : decode cX12_numeric 21 = .ok (.ifCond .eq 7, 3) := by decide +kernel
theorem dX12_numeric_24 : decode cX12_numeric 24 = .ok (.iload_n 2, 1) := by decide +kernel
theorem dX12_numeric_25 : decode cX12_numeric 25 = .ok (.ifCond .ne 25, 3) := by decide +kernel
theorem dX12_numeric_50 : decode cX12_numeric 50 = .ok (.iconst 0, 1) := by decide +kernel
theorem dX12_numeric_51 : decode cX12_numeric 51 = .ok (.istore_n 3, 1) := by decide +kernel
theorem dX12_numeric_52 : decode cX12_numeric 52 = .ok (.iconst 0, 1) := by decide +kernel
theorem dX12_numeric_53 : decode cX12_numeric 53 = .ok (.istore 4, 2) := by decide +kernel
def fb_X12_numeric_40  (x1 : Int32) (s : uS) : Option Int32 := if x1 = 0 then (some (1 : Int32)) else (some (-1 : Int32))
set_option maxRecDepth 100000 in
set_option maxHeartbeats 4000000 in
theorem xb_X12_numeric_40 {l : Launch} {D : va_G} {A : Nat → ClassId} {B : Nat} {Z : State → Heap → Prop} {vF : Value} (uk : uK B Z vF)   {x1 : Int32} {s : uS} {r : Int32}  (h : fb_X12_numeric_40  x1 s = some r) : GU l D A B Z mX12_numeric 2 (s, some (.int r)) s 40 [(1, .int x1)] [] := by
  unfold fb_X12_numeric_40 at h
  refine uu_iload_n dX12_numeric_40 rfl (List.mem_of_getElem? (i := 0) rfl) ?_
  refine uu_if_ne (tgt := 48) dX12_numeric_41 (by decide) (fun c1 => ?_) (fun c1 => ?_)
  · replace h := uu_neg c1 h
    refine uu_iconst (v := -1) dX12_numeric_48 (by decide) ?_
    have hr := Option.some.inj h
    subst hr
    exact uu_iret rfl dX12_numeric_49
  · replace h := uu_pos c1 h
    refine uu_iconst (v := 1) dX12_numeric_44 (by decide) ?_
    refine uu_goto (tgt := 49) dX12_numeric_45 (by decide) ?_
    have hr := Option.some.inj h
    subst hr
    exact uu_iret rfl dX12_numeric_49
def fb_X12_numeric_28  (x1 : Int32) (x2 : Int32) (s : uS) : Option Int32 := if x1 = 0 then (if x2 = 0 then (some (0 : Int32)) else (fb_X12_numeric_40 x1 s)) else (fb_X12_numeric_40 x1 s)
set_option maxRecDepth 100000 in
set_option maxHeartbeats 4000000 in
theorem xb_X12_numeric_28 {l : Launch} {D : va_G} {A : Nat → ClassId} {B : Nat} {Z : State → Heap → Prop} {vF : Value} (uk : uK B Z vF)   {x1 : Int32} {x2 : Int32} {s : uS} {r : Int32}  (h : fb_X12_numeric_28  x1 x2 s = some r) : GU l D A B Z mX12_numeric 2 (s, some (.int r)) s 28 [(1, .int x1), (2, .int x2)] [] := by
  unfold fb_X12_numeric_28 at h
  refine uu_iload_n dX12_numeric_28 rfl (List.mem_of_getElem? (i := 0) rfl) ?_
  refine uu_if_ne (tgt := 40) dX12_numeric_29 (by decide) (fun c1 => ?_) (fun c1 => ?_)
  · replace h := uu_neg c1 h
    refine uu_lv [0] (lv' := [(1, .int x1)]) rfl ?_
    exact xb_X12_numeric_40 uk  h
  · replace h := uu_pos c1 h
    refine uu_iload_n dX12_numeric_32 rfl (List.mem_of_getElem? (i := 1) rfl) ?_
    refine uu_if_ne (tgt := 40) dX12_numeric_33 (by decide) (fun c2 => ?_) (fun c2 => ?_)
    · replace h := uu_neg c2 h
      refine uu_lv [0] (lv' := [(1, .int x1)]) rfl ?_
      exact xb_X12_numeric_40 uk  h
    · replace h := uu_pos c2 h
      refine uu_iconst (v := 0) dX12_numeric_36 (by decide) ?_
      refine uu_goto (tgt := 49) dX12_numeric_37 (by decide) ?_
      have hr := Option.some.inj h
      subst hr
      exact uu_iret rfl dX12_numeric_49
def fb_X12_numeric_138 (K138 : Int32 → Int32 → Int32 → Int32 → uS → Option Int32) (x1 : Int32) (x3 : Int32) (x4 : Int32) (x5 : Int32) (s : uS) : Option Int32 := if (x1 - x3) ≤ x5 then (some (0 : Int32)) else ((iget 20 s 1093 (x3 + x5)).bind fun v2 => (iget 20 s 1094 (x4 + x5)).bind fun v4 => if v2 = v4 then (K138 x1 x3 x4 (x5 + 1) s) else ((iget 20 s 1093 (x3 + x5)).bind fun v7 => (iget 20 s 1094 (x4 + x5)).bind fun v9 => if v9 ≤ v7 then (some (1 : Int32)) else (some (-1 : Int32))))
set_option maxRecDepth 100000 in
set_option maxHeartbeats 4000000 in
theorem xb_X12_numeric_138 {l : Launch} {D : va_G} {A : Nat → ClassId} {B : Nat} {Z : State → Heap → Prop} {vF : Value} (uk : uK B Z vF) {K138 : Int32 → Int32 → Int32 → Int32 → uS → Option Int32} (hK138 : ∀ (x1 : Int32) (x3 : Int32) (x4 : Int32) (x5 : Int32)  (s : uS) (r : Int32), K138 x1 x3 x4 x5 s = some r → GU l D A B Z mX12_numeric 2 (s, some (.int r)) s 138 [(0, .ref (B + 1079)), (1, .int x1), (3, .int x3), (4, .int x4), (5, .int x5)] []) {x1 : Int32} {x3 : Int32} {x4 : Int32} {x5 : Int32} {s : uS} {r : Int32}  (h : fb_X12_numeric_138 K138 x1 x3 x4 x5 s = some r) : GU l D A B Z mX12_numeric 2 (s, some (.int r)) s 138 [(0, .ref (B + 1079)), (1, .int x1), (3, .int x3), (4, .int x4), (5, .int x5)] [] := by
  unfold fb_X12_numeric_138 at h
  refine uu_iload dX12_numeric_138 (List.mem_of_getElem? (i := 4) rfl) ?_
  refine uu_iload_n dX12_numeric_140 rfl (List.mem_of_getElem? (i := 1) rfl) ?_
  refine uu_iload_n dX12_numeric_141 rfl (List.mem_of_getElem? (i := 2) rfl) ?_
  refine uu_isub dX12_numeric_142 ?_
  refine uu_icmp_ge (tgt := 202) dX12_numeric_143 (by decide) (fun c1 => ?_) (fun c1 => ?_)
  · replace h := uu_pos c1 h
    refine uu_iconst (v := 0) dX12_numeric_202 (by decide) ?_
    have hr := Option.some.inj h
    subst hr
    exact uu_iret rfl dX12_numeric_203
  · replace h := uu_neg c1 h
    refine uu_aload_n dX12_numeric_146 rfl (List.mem_of_getElem? (i := 0) rfl) ?_
    refine uu_geta (ci := 12) (N := 153) fX12_116 (by decide) so_1079.is (by decide) (c := 1093) (by decide) dX12_numeric_147 ?_
    refine uu_iload_n dX12_numeric_150 rfl (List.mem_of_getElem? (i := 2) rfl) ?_
    refine uu_iload dX12_numeric_151 (List.mem_of_getElem? (i := 4) rfl) ?_
    refine uu_iadd dX12_numeric_153 ?_
    obtain ⟨v2, e3, h⟩ := uu_ob h
    refine uu_iald e3 dX12_numeric_154 ?_
    refine uu_aload_n dX12_numeric_155 rfl (List.mem_of_getElem? (i := 0) rfl) ?_
    refine uu_geta (ci := 12) (N := 153) fX12_122 (by decide) so_1079.is (by decide) (c := 1094) (by decide) dX12_numeric_156 ?_
    refine uu_iload dX12_numeric_159 (List.mem_of_getElem? (i := 3) rfl) ?_
    refine uu_iload dX12_numeric_161 (List.mem_of_getElem? (i := 4) rfl) ?_
    refine uu_iadd dX12_numeric_163 ?_
    obtain ⟨v4, e5, h⟩ := uu_ob h
    refine uu_iald e5 dX12_numeric_164 ?_
    refine uu_icmp_eq (tgt := 196) dX12_numeric_165 (by decide) (fun c6 => ?_) (fun c6 => ?_)
    · replace h := uu_pos c6 h
      refine uu_iinc (v := x5 + 1) dX12_numeric_196 (k := 4) rfl rfl (by decide) rfl ?_
      refine uu_goto (tgt := 138) dX12_numeric_199 (by decide) ?_
      refine uu_lv [1, 2, 3, 4, 0] (lv' := [(0, .ref (B + 1079)), (1, .int x1), (3, .int x3), (4, .int x4), (5, .int (x5 + 1))]) rfl ?_
      exact hK138 x1 x3 x4 (x5 + 1) _ _ h
    · replace h := uu_neg c6 h
      refine uu_aload_n dX12_numeric_168 rfl (List.mem_of_getElem? (i := 0) rfl) ?_
      refine uu_geta (ci := 12) (N := 153) fX12_116 (by decide) so_1079.is (by decide) (c := 1093) (by decide) dX12_numeric_169 ?_
      refine uu_iload_n dX12_numeric_172 rfl (List.mem_of_getElem? (i := 2) rfl) ?_
      refine uu_iload dX12_numeric_173 (List.mem_of_getElem? (i := 4) rfl) ?_
      refine uu_iadd dX12_numeric_175 ?_
      obtain ⟨v7, e8, h⟩ := uu_ob h
      refine uu_iald e8 dX12_numeric_176 ?_
      refine uu_aload_n dX12_numeric_177 rfl (List.mem_of_getElem? (i := 0) rfl) ?_
      refine uu_geta (ci := 12) (N := 153) fX12_122 (by decide) so_1079.is (by decide) (c := 1094) (by decide) dX12_numeric_178 ?_
      refine uu_iload dX12_numeric_181 (List.mem_of_getElem? (i := 3) rfl) ?_
      refine uu_iload dX12_numeric_183 (List.mem_of_getElem? (i := 4) rfl) ?_
      refine uu_iadd dX12_numeric_185 ?_
      obtain ⟨v9, e10, h⟩ := uu_ob h
      refine uu_iald e10 dX12_numeric_186 ?_
      refine uu_icmp_ge (tgt := 194) dX12_numeric_187 (by decide) (fun c11 => ?_) (fun c11 => ?_)
      · replace h := uu_pos c11 h
        refine uu_iconst (v := 1) dX12_numeric_194 (by decide) ?_
        have hr := Option.some.inj h
        subst hr
        exact uu_iret rfl dX12_numeric_195
      · replace h := uu_neg c11 h
        refine uu_iconst (v := -1) dX12_numeric_190 (by decide) ?_
        refine uu_goto (tgt := 195) dX12_numeric_191 (by decide) ?_
        have hr := Option.some.inj h
        subst hr
        exact uu_iret rfl dX12_numeric_195
def fn_X12_numeric_138  : Nat → Int32 → Int32 → Int32 → Int32 → uS → Option Int32
  | 0 => fun _ _ _ _ _ => none
  | n + 1 => fb_X12_numeric_138 (fn_X12_numeric_138  n)
set_option maxRecDepth 100000 in
set_option maxHeartbeats 4000000 in
theorem xn_X12_numeric_138 {l : Launch} {D : va_G} {A : Nat → ClassId} {B : Nat} {Z : State → Heap → Prop} {vF : Value} (uk : uK B Z vF)   : ∀ (n : Nat) (x1 : Int32) (x3 : Int32) (x4 : Int32) (x5 : Int32)  (s : uS) (r : Int32), fn_X12_numeric_138  n x1 x3 x4 x5 s = some r → GU l D A B Z mX12_numeric 2 (s, some (.int r)) s 138 [(0, .ref (B + 1079)), (1, .int x1), (3, .int x3), (4, .int x4), (5, .int x5)] [] := by
  intro n
  induction n with
  | zero => intro x1 x3 x4 x5 s r h
            cases h
  | succ n ih => intro x1 x3 x4 x5 s r h
                 exact xb_X12_numeric_138 uk ih  h
def fb_X12_numeric_109  (x1 : Int32) (x2 : Int32) (x3 : Int32) (x4 : Int32) (s : uS) : Option Int32 := if (x1 - x3) = (x2 - x4) then (fn_X12_numeric_138 uFu x1 x3 x4 0 s) else (if (x2 - x4) ≤ (x1 - x3) then (some (1 : Int32)) else (some (-1 : Int32)))
set_option maxRecDepth 100000 in
set_option maxHeartbeats 4000000 in
theorem xb_X12_numeric_109 {l : Launch} {D : va_G} {A : Nat → ClassId} {B : Nat} {Z : State → Heap → Prop} {vF : Value} (uk : uK B Z vF)   {x1 : Int32} {x2 : Int32} {x3 : Int32} {x4 : Int32} {s : uS} {r : Int32}  (h : fb_X12_numeric_109  x1 x2 x3 x4 s = some r) : GU l D A B Z mX12_numeric 2 (s, some (.int r)) s 109 [(0, .ref (B + 1079)), (1, .int x1), (2, .int x2), (3, .int x3), (4, .int x4)] [] := by
  unfold fb_X12_numeric_109 at h
  refine uu_iload_n dX12_numeric_109 rfl (List.mem_of_getElem? (i := 1) rfl) ?_
  refine uu_iload_n dX12_numeric_110 rfl (List.mem_of_getElem? (i := 3) rfl) ?_
  refine uu_isub dX12_numeric_111 ?_
  refine uu_iload_n dX12_numeric_112 rfl (List.mem_of_getElem? (i := 2) rfl) ?_
  refine uu_iload dX12_numeric_113 (List.mem_of_getElem? (i := 4) rfl) ?_
  refine uu_isub dX12_numeric_115 ?_
  refine uu_icmp_eq (tgt := 135) dX12_numeric_116 (by decide) (fun c1 => ?_) (fun c1 => ?_)
  · replace h := uu_pos c1 h
    refine uu_iconst (v := 0) dX12_numeric_135 (by decide) ?_
    refine uu_istore dX12_numeric_136 (by decide) rfl ?_
    refine uu_lv [1, 2, 4, 5, 0] (lv' := [(0, .ref (B + 1079)), (1, .int x1), (3, .int x3), (4, .int x4), (5, .int 0)]) rfl ?_
    exact xn_X12_numeric_138 uk  _ _ _ _ _ _ _ h
  · replace h := uu_neg c1 h
    refine uu_iload_n dX12_numeric_119 rfl (List.mem_of_getElem? (i := 1) rfl) ?_
    refine uu_iload_n dX12_numeric_120 rfl (List.mem_of_getElem? (i := 3) rfl) ?_
    refine uu_isub dX12_numeric_121 ?_
    refine uu_iload_n dX12_numeric_122 rfl (List.mem_of_getElem? (i := 2) rfl) ?_
    refine uu_iload dX12_numeric_123 (List.mem_of_getElem? (i := 4) rfl) ?_
    refine uu_isub dX12_numeric_125 ?_
    refine uu_icmp_ge (tgt := 133) dX12_numeric_126 (by decide) (fun c2 => ?_) (fun c2 => ?_)
    · replace h := uu_pos c2 h
      refine uu_iconst (v := 1) dX12_numeric_133 (by decide) ?_
      have hr := Option.some.inj h
      subst hr
      exact uu_iret rfl dX12_numeric_134
    · replace h := uu_neg c2 h
      refine uu_iconst (v := -1) dX12_numeric_129 (by decide) ?_
      refine uu_goto (tgt := 134) dX12_numeric_130 (by decide) ?_
      have hr := Option.some.inj h
      subst hr
      exact uu_iret rfl dX12_numeric_134
def fb_X12_numeric_80 (K80 : Int32 → Int32 → Int32 → Int32 → uS → Option Int32) (x1 : Int32) (x2 : Int32) (x3 : Int32) (x4 : Int32) (s : uS) : Option Int32 := if (x2 - 1) ≤ x4 then (fb_X12_numeric_109 x1 x2 x3 x4 s) else ((iget 20 s 1094 x4).bind fun v2 => if v2 = 48 then (K80 x1 x2 x3 (x4 + 1) s) else (fb_X12_numeric_109 x1 x2 x3 x4 s))
set_option maxRecDepth 100000 in
set_option maxHeartbeats 4000000 in
theorem xb_X12_numeric_80 {l : Launch} {D : va_G} {A : Nat → ClassId} {B : Nat} {Z : State → Heap → Prop} {vF : Value} (uk : uK B Z vF) {K80 : Int32 → Int32 → Int32 → Int32 → uS → Option Int32} (hK80 : ∀ (x1 : Int32) (x2 : Int32) (x3 : Int32) (x4 : Int32)  (s : uS) (r : Int32), K80 x1 x2 x3 x4 s = some r → GU l D A B Z mX12_numeric 2 (s, some (.int r)) s 80 [(0, .ref (B + 1079)), (1, .int x1), (2, .int x2), (3, .int x3), (4, .int x4)] []) {x1 : Int32} {x2 : Int32} {x3 : Int32} {x4 : Int32} {s : uS} {r : Int32}  (h : fb_X12_numeric_80 K80 x1 x2 x3 x4 s = some r) : GU l D A B Z mX12_numeric 2 (s, some (.int r)) s 80 [(0, .ref (B + 1079)), (1, .int x1), (2, .int x2), (3, .int x3), (4, .int x4)] [] := by
  unfold fb_X12_numeric_80 at h
  refine uu_iload dX12_numeric_80 (List.mem_of_getElem? (i := 4) rfl) ?_
  refine uu_iload_n dX12_numeric_82 rfl (List.mem_of_getElem? (i := 2) rfl) ?_
  refine uu_iconst (v := 1) dX12_numeric_83 (by decide) ?_
  refine uu_isub dX12_numeric_84 ?_
  refine uu_icmp_ge (tgt := 109) dX12_numeric_85 (by decide) (fun c1 => ?_) (fun c1 => ?_)
  · replace h := uu_pos c1 h
    exact xb_X12_numeric_109 uk  h
  · replace h := uu_neg c1 h
    refine uu_aload_n dX12_numeric_88 rfl (List.mem_of_getElem? (i := 0) rfl) ?_
    refine uu_geta (ci := 12) (N := 153) fX12_122 (by decide) so_1079.is (by decide) (c := 1094) (by decide) dX12_numeric_89 ?_
    refine uu_iload dX12_numeric_92 (List.mem_of_getElem? (i := 4) rfl) ?_
    obtain ⟨v2, e3, h⟩ := uu_ob h
    refine uu_iald e3 dX12_numeric_94 ?_
    refine uu_bipush (v := 48) dX12_numeric_95 (by decide) ?_
    refine uu_icmp_ne (tgt := 109) dX12_numeric_97 (by decide) (fun c4 => ?_) (fun c4 => ?_)
    · replace h := uu_neg c4 h
      exact xb_X12_numeric_109 uk  h
    · replace h := uu_pos c4 h
      refine uu_iload dX12_numeric_100 (List.mem_of_getElem? (i := 4) rfl) ?_
      refine uu_iconst (v := 1) dX12_numeric_102 (by decide) ?_
      refine uu_iadd dX12_numeric_103 ?_
      refine uu_istore dX12_numeric_104 (by decide) rfl ?_
      refine uu_goto (tgt := 80) dX12_numeric_106 (by decide) ?_
      refine uu_lv [1, 2, 3, 4, 0] (lv' := [(0, .ref (B + 1079)), (1, .int x1), (2, .int x2), (3, .int x3), (4, .int (x4 + 1))]) rfl ?_
      exact hK80 x1 x2 x3 (x4 + 1) _ _ h
def fn_X12_numeric_80  : Nat → Int32 → Int32 → Int32 → Int32 → uS → Option Int32
  | 0 => fun _ _ _ _ _ => none
  | n + 1 => fb_X12_numeric_80 (fn_X12_numeric_80  n)
set_option maxRecDepth 100000 in
set_option maxHeartbeats 4000000 in
theorem xn_X12_numeric_80 {l : Launch} {D : va_G} {A : Nat → ClassId} {B : Nat} {Z : State → Heap → Prop} {vF : Value} (uk : uK B Z vF)   : ∀ (n : Nat) (x1 : Int32) (x2 : Int32) (x3 : Int32) (x4 : Int32)  (s : uS) (r : Int32), fn_X12_numeric_80  n x1 x2 x3 x4 s = some r → GU l D A B Z mX12_numeric 2 (s, some (.int r)) s 80 [(0, .ref (B + 1079)), (1, .int x1), (2, .int x2), (3, .int x3), (4, .int x4)] [] := by
  intro n
  induction n with
  | zero => intro x1 x2 x3 x4 s r h
            cases h
  | succ n ih => intro x1 x2 x3 x4 s r h
                 exact xb_X12_numeric_80 uk ih  h
def fb_X12_numeric_55 (K55 : Int32 → Int32 → Int32 → Bool → uS → Option Int32) (x1 : Int32) (x2 : Int32) (x3 : Int32) (b4 : Bool) (s : uS) : Option Int32 := if (x1 - 1) ≤ x3 then (fn_X12_numeric_80 uFu x1 x2 x3 (bI b4) s) else ((iget 20 s 1093 x3).bind fun v2 => if v2 = 48 then (K55 x1 x2 (x3 + 1) b4 s) else (fn_X12_numeric_80 uFu x1 x2 x3 (bI b4) s))
set_option maxRecDepth 100000 in
set_option maxHeartbeats 4000000 in
theorem xb_X12_numeric_55 {l : Launch} {D : va_G} {A : Nat → ClassId} {B : Nat} {Z : State → Heap → Prop} {vF : Value} (uk : uK B Z vF) {K55 : Int32 → Int32 → Int32 → Bool → uS → Option Int32} (hK55 : ∀ (x1 : Int32) (x2 : Int32) (x3 : Int32) (b4 : Bool)  (s : uS) (r : Int32), K55 x1 x2 x3 b4 s = some r → GU l D A B Z mX12_numeric 2 (s, some (.int r)) s 55 [(0, .ref (B + 1079)), (1, .int x1), (2, .int x2), (3, .int x3), (4, .int (bI b4))] []) {x1 : Int32} {x2 : Int32} {x3 : Int32} {b4 : Bool} {s : uS} {r : Int32}  (h : fb_X12_numeric_55 K55 x1 x2 x3 b4 s = some r) : GU l D A B Z mX12_numeric 2 (s, some (.int r)) s 55 [(0, .ref (B + 1079)), (1, .int x1), (2, .int x2), (3, .int x3), (4, .int (bI b4))] [] := by
  unfold fb_X12_numeric_55 at h
  refine uu_iload_n dX12_numeric_55 rfl (List.mem_of_getElem? (i := 3) rfl) ?_
  refine uu_iload_n dX12_numeric_56 rfl (List.mem_of_getElem? (i := 1) rfl) ?_
  refine uu_iconst (v := 1) dX12_numeric_57 (by decide) ?_
  refine uu_isub dX12_numeric_58 ?_
  refine uu_icmp_ge (tgt := 80) dX12_numeric_59 (by decide) (fun c1 => ?_) (fun c1 => ?_)
  · replace h := uu_pos c1 h
    exact xn_X12_numeric_80 uk  _ _ _ _ _ _ _ h
  · replace h := uu_neg c1 h
    refine uu_aload_n dX12_numeric_62 rfl (List.mem_of_getElem? (i := 0) rfl) ?_
    refine uu_geta (ci := 12) (N := 153) fX12_116 (by decide) so_1079.is (by decide) (c := 1093) (by decide) dX12_numeric_63 ?_
    refine uu_iload_n dX12_numeric_66 rfl (List.mem_of_getElem? (i := 3) rfl) ?_
    obtain ⟨v2, e3, h⟩ := uu_ob h
    refine uu_iald e3 dX12_numeric_67 ?_
    refine uu_bipush (v := 48) dX12_numeric_68 (by decide) ?_
    refine uu_icmp_ne (tgt := 80) dX12_numeric_70 (by decide) (fun c4 => ?_) (fun c4 => ?_)
    · replace h := uu_neg c4 h
      exact xn_X12_numeric_80 uk  _ _ _ _ _ _ _ h
    · replace h := uu_pos c4 h
      refine uu_iload_n dX12_numeric_73 rfl (List.mem_of_getElem? (i := 3) rfl) ?_
      refine uu_iconst (v := 1) dX12_numeric_74 (by decide) ?_
      refine uu_iadd dX12_numeric_75 ?_
      refine uu_istore_n dX12_numeric_76 rfl (by decide) rfl ?_
      refine uu_goto (tgt := 55) dX12_numeric_77 (by decide) ?_
      refine uu_lv [1, 2, 3, 0, 4] (lv' := [(0, .ref (B + 1079)), (1, .int x1), (2, .int x2), (3, .int (x3 + 1)), (4, .int (bI b4))]) rfl ?_
      exact hK55 x1 x2 (x3 + 1) b4 _ _ h
def fn_X12_numeric_55  : Nat → Int32 → Int32 → Int32 → Bool → uS → Option Int32
  | 0 => fun _ _ _ _ _ => none
  | n + 1 => fb_X12_numeric_55 (fn_X12_numeric_55  n)
set_option maxRecDepth 100000 in
set_option maxHeartbeats 4000000 in
theorem xn_X12_numeric_55 {l : Launch} {D : va_G} {A : Nat → ClassId} {B : Nat} {Z : State → Heap → Prop} {vF : Value} (uk : uK B Z vF)   : ∀ (n : Nat) (x1 : Int32) (x2 : Int32) (x3 : Int32) (b4 : Bool)  (s : uS) (r : Int32), fn_X12_numeric_55  n x1 x2 x3 b4 s = some r → GU l D A B Z mX12_numeric 2 (s, some (.int r)) s 55 [(0, .ref (B + 1079)), (1, .int x1), (2, .int x2), (3, .int x3), (4, .int (bI b4))] [] := by
  intro n
  induction n with
  | zero => intro x1 x2 x3 b4 s r h
            cases h
  | succ n ih => intro x1 x2 x3 b4 s r h
                 exact xb_X12_numeric_55 uk ih  h
def fn_X12_numeric  (s : uS) : Option Int32 := (fn_X12_digitsOf (s.I 1079 21) false s).bind fun v1 => (fn_X12_digitsOf (s.I 1079 23) true s).bind fun v3 => if v1 = 0 then (fb_X12_numeric_28 v1 v3 s) else (if v3 = 0 then (fb_X12_numeric_28 v1 v3 s) else (fn_X12_numeric_55 uFu v1 v3 0 false s))
set_option maxRecDepth 100000 in
set_option maxHeartbeats 4000000 in
theorem xc_X12_numeric {l : Launch} {D : va_G} {A : Nat → ClassId} {B : Nat} {Z : State → Heap → Prop} {vF : Value} (uk : uK B Z vF)  {s : uS} {r : Int32}  (h : fn_X12_numeric  s = some r) : CU l D A B Z 2 mX12_numeric s [.ref (B + 1079)] (s, some (.int r)) := by
  unfold fn_X12_numeric at h
  refine cu_of rfl uk.1.1 (Nat.le_of_ble_eq_true rfl) ?_
  show GU _ _ _ _ _ _ _ _ _ 0 [(0, .ref (B + 1079))] []
  refine uu_aload_n dX12_numeric_0 rfl (List.mem_of_getElem? (i := 0) rfl) ?_
  refine uu_aload_n dX12_numeric_1 rfl (List.mem_of_getElem? (i := 0) rfl) ?_
  refine uu_geti (ci := 12) (N := 153) fX12_110 (by decide) so_1079.is (by decide) (by decide) dX12_numeric_2 ?_
  refine uu_iconst (v := 0) dX12_numeric_5 (by decide) ?_
  obtain ⟨v1, e2, h⟩ := uu_ob h
  refine uu_cv (d1 := 1) (k := 1079) (ci := 12) (T := TX12) (N := 153) (As := [.int (s.I 1079 21), .int 0]) (st := []) (st' := [.int v1]) (xc_X12_digitsOf uk  e2) so_1079.is (by decide) rfl kX12_digitsOf lX12_603 sX12_digitsOf (by decide) (Nat.le_of_ble_eq_true rfl) dX12_numeric_6 rfl ?_
  refine uu_istore_n dX12_numeric_9 rfl (by decide) rfl ?_
  refine uu_aload_n dX12_numeric_10 rfl (List.mem_of_getElem? (i := 1) rfl) ?_
  refine uu_aload_n dX12_numeric_11 rfl (List.mem_of_getElem? (i := 1) rfl) ?_
  refine uu_geti (ci := 12) (N := 153) fX12_113 (by decide) so_1079.is (by decide) (by decide) dX12_numeric_12 ?_
  refine uu_iconst (v := 1) dX12_numeric_15 (by decide) ?_
  obtain ⟨v3, e4, h⟩ := uu_ob h
  refine uu_cv (d1 := 1) (k := 1079) (ci := 12) (T := TX12) (N := 153) (As := [.int (s.I 1079 23), .int 1]) (st := []) (st' := [.int v3]) (xc_X12_digitsOf uk  e4) so_1079.is (by decide) rfl kX12_digitsOf lX12_603 sX12_digitsOf (by decide) (Nat.le_of_ble_eq_true rfl) dX12_numeric_16 rfl ?_
  refine uu_istore_n dX12_numeric_19 rfl (by decide) rfl ?_
  refine uu_iload_n dX12_numeric_20 rfl (List.mem_of_getElem? (i := 1) rfl) ?_
  refine uu_if_eq (tgt := 28) dX12_numeric_21 (by decide) (fun c5 => ?_) (fun c5 => ?_)
  · replace h := uu_pos c5 h
    refine uu_lv [1, 0] (lv' := [(1, .int v1), (2, .int v3)]) rfl ?_
    exact xb_X12_numeric_28 uk  h
  · replace h := uu_neg c5 h
    refine uu_iload_n dX12_numeric_24 rfl (List.mem_of_getElem? (i := 0) rfl) ?_
    refine uu_if_ne (tgt := 50) dX12_numeric_25 (by decide) (fun c6 => ?_) (fun c6 => ?_)
    · replace h := uu_neg c6 h
      refine uu_iconst (v := 0) dX12_numeric_50 (by decide) ?_
      refine uu_istore_n dX12_numeric_51 rfl (by decide) rfl ?_
      refine uu_iconst (v := 0) dX12_numeric_52 (by decide) ?_
      refine uu_istore dX12_numeric_53 (by decide) rfl ?_
      refine uu_lv [4, 3, 2, 1, 0] (lv' := [(0, .ref (B + 1079)), (1, .int v1), (2, .int v3), (3, .int 0), (4, .int 0)]) rfl ?_
      exact xn_X12_numeric_55 uk  _ _ _ _ _ _ _ h
    · replace h := uu_pos c6 h
      refine uu_lv [1, 0] (lv' := [(1, .int v1), (2, .int v3)]) rfl ?_
      exact xb_X12_numeric_28 uk  h
abbrev mX12_high : hM := (yX12_high, cX12_high, 1, (some (.int)))
theorem dX12_high_0 : decode cX12_high 0 = .ok (.iload_n 0, 1) := by decide +kernel
theorem dX12_high_1 : decode cX12_high 1 = .ok (.bipush 97, 2) := by decide +kernel
theorem dX12_high_3 : decode cX12_high 3 = .ok (.if_icmp .lt 16, 3) := by decide +kernel
theorem dX12_high_19 : decode cX12_high 19 = .ok (.iload_n 0, 1) := by decide +kernel
theorem dX12_high_20 : decode cX12_high 20 = .ok (.ireturn, 1) := by decide +kernel
theorem dX12_high_6 : decode cX12_high 6 = .ok (.iload_n 0, 1) := by decide +kernel
theorem dX12_high_7 : decode cX12_high 7 = .ok (.bipush 122, 2) := by decide +kernel
theorem dX12_high_9 : decode cX12_high 9 = .ok (.if_icmp .gt 10, 3) := by decide +kernel
theorem dX12_high_12 : decode cX12_high 12 = .ok (.iload_n 0, 1) := by decide +kernel
theorem dX12_high_13 : decode cX12_high 13 = .ok (.bipush 32, 2) := by decide +kernel
theorem dX12_high_15 : decode cX12_high 15 = .ok (.isub, 1) := by decide +kernel
theorem dX12_high_16 : decode cX12_high 16 = .ok (.goto 4, 3) := by decide +kernel
def fn_X12_high (x0 : Int32) (s : uS) : Option Int32 := if x0 < 97 then (some x0) else (if (122 : Int32) < x0 then (some x0) else (some (x0 - 32)))
set_option maxRecDepth 100000 in
set_option maxHeartbeats 4000000 in
theorem xc_X12_high {l : Launch} {D : va_G} {A : Nat → ClassId} {B : Nat} {Z : State → Heap → Prop} {vF : Value} (uk : uK B Z vF) {x0 : Int32} {s : uS} {r : Int32}  (h : fn_X12_high x0 s = some r) : CU l D A B Z 0 mX12_high s [.int x0] (s, some (.int r)) := by
  unfold fn_X12_high at h
  refine cu_of rfl uk.1.1 (Nat.le_of_ble_eq_true rfl) ?_
  show GU _ _ _ _ _ _ _ _ _ 0 [(0, .int x0)] []
  refine uu_iload_n dX12_high_0 rfl (List.mem_of_getElem? (i := 0) rfl) ?_
  refine uu_bipush (v := 97) dX12_high_1 (by decide) ?_
  refine uu_icmp_lt (tgt := 19) dX12_high_3 (by decide) (fun c1 => ?_) (fun c1 => ?_)
  · replace h := uu_pos c1 h
    refine uu_iload_n dX12_high_19 rfl (List.mem_of_getElem? (i := 0) rfl) ?_
    have hr := Option.some.inj h
    subst hr
    exact uu_iret rfl dX12_high_20
  · replace h := uu_neg c1 h
    refine uu_iload_n dX12_high_6 rfl (List.mem_of_getElem? (i := 0) rfl) ?_
    refine uu_bipush (v := 122) dX12_high_7 (by decide) ?_
    refine uu_icmp_gt (tgt := 19) dX12_high_9 (by decide) (fun c2 => ?_) (fun c2 => ?_)
    · replace h := uu_pos c2 h
      refine uu_iload_n dX12_high_19 rfl (List.mem_of_getElem? (i := 0) rfl) ?_
      have hr := Option.some.inj h
      subst hr
      exact uu_iret rfl dX12_high_20
    · replace h := uu_neg c2 h
      refine uu_iload_n dX12_high_12 rfl (List.mem_of_getElem? (i := 0) rfl) ?_
      refine uu_bipush (v := 32) dX12_high_13 (by decide) ?_
      refine uu_isub dX12_high_15 ?_
      refine uu_goto (tgt := 20) dX12_high_16 (by decide) ?_
      have hr := Option.some.inj h
      subst hr
      exact uu_iret rfl dX12_high_20
abbrev mX12_bytewise : hM := (yX12_bytewise, cX12_bytewise, 6, (some (.int)))
theorem dX12_bytewise_76 : decode cX12_bytewise 76 = .ok (.istore 5, 2) := by decide +kernel
theorem dX12_bytewise_78 : decode cX12_bytewise 78 = .ok (.iload 4, 2) := by decide +kernel
theorem dX12_bytewise_80 : decode cX12_bytewise 80 = .ok (.iload 5, 2) := by decide +kernel
theorem dX12_bytewise_82 : decode cX12_bytewise 82 = .ok (.if_icmp .eq 16, 3) := by decide +kernel
theorem dX12_bytewise_98 : decode cX12_bytewise 98 = .ok (.iinc 3 1, 3) := by decide +kernel
theorem dX12_bytewise_101 : decode cX12_bytewise 101 = .ok (.goto (-76), 3) := by decide +kernel
theorem dX12_bytewise_85 : decode cX12_bytewise 85 = .ok (.iload 4, 2) := by decide +kernel
theorem dX12_bytewise_87 : decode cX12_bytewise 87 = .ok (.iload 5, 2) := by decide +kernel
theorem dX12_bytewise_89 : decode cX12_bytewise 89 = .ok (.if_icmp .ge 7, 3) := by decide +kernel
theorem dX12_bytewise_96 : decode cX12_bytewise 96 = .ok (.iconst 1, 1) := by decide +kernel
theorem dX12_bytewise_97 : decode cX12_bytewise 97 = .ok (.ireturn, 1) := by decide +kernel
theorem dX12_bytewise_92 : decode cX12_bytewise 92 = .ok (.iconst (-1), 1) := by decide +kernel
theorem dX12_bytewise_93 : decode cX12_bytewise 93 = .ok (.goto 4, 3) := by decide +kernel
theorem dX12_bytewise_52 : decode cX12_bytewise 52 = .ok (.istore 4, 2) := by decide +kernel
theorem dX12_bytewise_54 : decode cX12_bytewise 54 = .ok (.iload_n 1, 1) := by decide +kernel
theorem dX12_bytewise_55 : decode cX12_bytewise 55 = .ok (.ifCond .eq 15, 3) := by decide +kernel
theorem dX12_bytewise_70 : decode cX12_bytewise 70 = .ok (.aload_n 0, 1) := by decide +kernel
theorem dX12_bytewise_71 : decode cX12_bytewise 71 = .ok (.getfield 122, 3) := by decide +kernel
theorem dX12_bytewise_74 : decode cX12_bytewise 74 = .ok (.iload_n 3, 1) := by decide +kernel
theorem dX12_bytewise_75 : decode cX12_bytewise 75 = .ok (.iaload, 1) := by decide +kernel
theorem dX12_bytewise_58 : decode cX12_bytewise 58 = .ok (.aload_n 0, 1) := by decide +kernel
theorem dX12_bytewise_59 : decode cX12_bytewise 59 = .ok (.getfield 122, 3) := by decide +kernel
theorem dX12_bytewise_62 : decode cX12_bytewise 62 = .ok (.iload_n 3, 1) := by decide +kernel
theorem dX12_bytewise_63 : decode cX12_bytewise 63 = .ok (.iaload, 1) := by decide +kernel
theorem kX12_high : h_ml mX12_high 1 := ⟨h_t9 129 rfl rfl, h_t1 16 rfl rfl, ⟨by decide, by decide, by decide +kernel⟩, by decide⟩
theorem lX12_607 : Cond.methodLink RX12 607 mX12_high.1 ∈ lw_g := h_t9 127 rfl rfl
theorem sX12_high : Cond.static mX12_high.1 ∈ lw_g := h_t9 128 rfl rfl
theorem dX12_bytewise_64 : decode cX12_bytewise 64 = .ok (.invokestatic 607, 3) := by decide +kernel
theorem dX12_bytewise_67 : decode cX12_bytewise 67 = .ok (.goto 9, 3) := by decide +kernel
theorem dX12_bytewise_25 : decode cX12_bytewise 25 = .ok (.iload_n 3, 1) := by decide +kernel
theorem dX12_bytewise_26 : decode cX12_bytewise 26 = .ok (.iload_n 2, 1) := by decide +kernel
theorem dX12_bytewise_27 : decode cX12_bytewise 27 = .ok (.if_icmp .ge 77, 3) := by decide +kernel
theorem dX12_bytewise_104 : decode cX12_bytewise 104 = .ok (.aload_n 0, 1) := by decide +kernel
theorem dX12_bytewise_105 : decode cX12_bytewise 105 = .ok (.getfield 110, 3) := by decide +kernel
theorem dX12_bytewise_108 : decode cX12_bytewise 108 = .ok (.aload_n 0, 1) := by decide +kernel
theorem dX12_bytewise_109 : decode cX12_bytewise 109 = .ok (.getfield 113, 3) := by decide +kernel
theorem dX12_bytewise_112 : decode cX12_bytewise 112 = .ok (.if_icmp .ge 7, 3) := by decide +kernel
theorem dX12_bytewise_119 : decode cX12_bytewise 119 = .ok (.aload_n 0, 1) := by decide +kernel
theorem dX12_bytewise_120 : decode cX12_bytewise 120 = .ok (.getfield 110, 3) := by decide +kernel
theorem dX12_bytewise_123 : decode cX12_bytewise 123 = .ok (.aload_n 0, 1) := by decide +kernel
theorem dX12_bytewise_124 : decode cX12_bytewise 124 = .ok (.getfield 113, 3) := by decide +kernel
theorem dX12_bytewise_127 : decode cX12_bytewise 127 = .ok (.if_icmp .le 7, 3) := by decide +kernel
theorem dX12_bytewise_134 : decode cX12_bytewise 134 = .ok (.iconst 0, 1) := by decide +kernel
theorem dX12_bytewise_135 : decode cX12_bytewise 135 = .ok (.ireturn, 1) := by decide +kernel
theorem dX12_bytewise_130 : decode cX12_bytewise 130 = .ok (.iconst 1, 1) := by decide +kernel
theorem dX12_bytewise_131 : decode cX12_bytewise 131 = .ok (.goto 4, 3) := by decide +kernel
theorem dX12_bytewise_115 : decode cX12_bytewise 115 = .ok (.iconst (-1), 1) := by decide +kernel
theorem dX12_bytewise_116 : decode cX12_bytewise 116 = .ok (.goto 19, 3) := by decide +kernel
theorem dX12_bytewise_30 : decode cX12_bytewise 30 = .ok (.iload_n 1, 1) := by decide +kernel
theorem dX12_bytewise_31 : decode cX12_bytewise 31 = .ok (.ifCond .eq 15, 3) := by decide +kernel
theorem dX12_bytewise_46 : decode cX12_bytewise 46 = .ok (.aload_n 0, 1) := by decide +kernel
theorem dX12_bytewise_47 : decode cX12_bytewise 47 = .ok (.getfield 116, 3) := by decide +kernel
theorem dX12_bytewise_50 : decode cX12_bytewise 50 = .ok (.iload_n 3, 1) := by decide +kernel
theorem dX12_bytewise_51 : decode cX12_bytewise 51 = .ok (.iaload, 1) := by decide +kernel
theorem dX12_bytewise_34 : decode cX12_bytewise 34 = .ok (.aload_n 0, 1) := by decide +kernel
theorem dX12_bytewise_35 : decode cX12_bytewise 35 = .ok (.getfield 116, 3) := by decide +kernel
theorem dX12_bytewise_38 : decode cX12_bytewise 38 = .ok (.iload_n 3, 1) := by decide +kernel
theorem dX12_bytewise_39 : decode cX12_bytewise 39 = .ok (.iaload, 1) := by decide +kernel
theorem dX12_bytewise_40 : decode cX12_bytewise 40 = .ok (.invokestatic 607, 3) := by decide +kernel
theorem dX12_bytewise_43 : decode cX12_bytewise 43 = .ok (.goto 9, 3) := by decide +kernel
theorem dX12_bytewise_0 : decode cX12_bytewise 0 = .ok (.aload_n 0, 1) := by decide +kernel
theorem dX12_bytewise_1 : decode cX12_bytewise 1 = .ok (.getfield 110, 3) := by decide +kernel
theorem dX12_bytewise_4 : decode cX12_bytewise 4 = .ok (.aload_n 0, 1) := by decide +kernel
theorem dX12_bytewise_5 : decode cX12_bytewise 5 = .ok (.getfield 113, 3) := by decide +kernel
theorem dX12_bytewise_8 : decode cX12_bytewise 8 = .ok (.if_icmp .ge 10, 3) := by decide +kernel
theorem dX12_bytewise_18 : decode cX12_bytewise 18 = .ok (.aload_n 0, 1) := by decide +kernel
theorem dX12_bytewise_19 : decode cX12_bytewise 19 = .ok (.getfield 113, 3) := by decide +kernel
theorem dX12_bytewise_22 : decode cX12_bytewise 22 = .ok (.istore_n 2, 1) := by decide +kernel
theorem dX12_bytewise_23 : decode cX12_bytewise 23 = .ok (.iconst 0, 1) := by decide +kernel
theorem dX12_bytewise_24 : decode cX12_bytewise 24 = .ok (.istore_n 3, 1) := by decide +kernel
theorem dX12_bytewise_11 : decode cX12_bytewise 11 = .ok (.aload_n 0, 1) := by decide +kernel
theorem dX12_bytewise_12 : decode cX12_bytewise 12 = .ok (.getfield 110, 3) := by decide +kernel
theorem dX12_bytewise_15 : decode cX12_bytewise 15 = .ok (.goto 7, 3) := by decide +kernel
def fb_X12_bytewise_76 (K25 : Bool → Int32 → Int32 → uS → Option Int32) (b1 : Bool) (x2 : Int32) (x3 : Int32) (x4 : Int32) (xs0 : Int32) (s : uS) : Option Int32 := if x4 = xs0 then (K25 b1 x2 (x3 + 1) s) else (if xs0 ≤ x4 then (some (1 : Int32)) else (some (-1 : Int32)))
set_option maxRecDepth 100000 in
set_option maxHeartbeats 4000000 in
theorem xb_X12_bytewise_76 {l : Launch} {D : va_G} {A : Nat → ClassId} {B : Nat} {Z : State → Heap → Prop} {vF : Value} (uk : uK B Z vF) {K25 : Bool → Int32 → Int32 → uS → Option Int32} (hK25 : ∀ (b1 : Bool) (x2 : Int32) (x3 : Int32)  (s : uS) (r : Int32), K25 b1 x2 x3 s = some r → GU l D A B Z mX12_bytewise 1 (s, some (.int r)) s 25 [(0, .ref (B + 1079)), (1, .int (bI b1)), (2, .int x2), (3, .int x3)] []) {b1 : Bool} {x2 : Int32} {x3 : Int32} {x4 : Int32} {xs0 : Int32} {s : uS} {r : Int32}  (h : fb_X12_bytewise_76 K25 b1 x2 x3 x4 xs0 s = some r) : GU l D A B Z mX12_bytewise 1 (s, some (.int r)) s 76 [(0, .ref (B + 1079)), (1, .int (bI b1)), (2, .int x2), (3, .int x3), (4, .int x4)] [.int xs0] := by
  unfold fb_X12_bytewise_76 at h
  refine uu_istore dX12_bytewise_76 (by decide) rfl ?_
  refine uu_iload dX12_bytewise_78 (List.mem_of_getElem? (i := 5) rfl) ?_
  refine uu_iload dX12_bytewise_80 (List.mem_of_getElem? (i := 0) rfl) ?_
  refine uu_icmp_eq (tgt := 98) dX12_bytewise_82 (by decide) (fun c1 => ?_) (fun c1 => ?_)
  · replace h := uu_pos c1 h
    refine uu_iinc (v := x3 + 1) dX12_bytewise_98 (k := 4) rfl rfl (by decide) rfl ?_
    refine uu_goto (tgt := 25) dX12_bytewise_101 (by decide) ?_
    refine uu_lv [2, 3, 4, 0] (lv' := [(0, .ref (B + 1079)), (1, .int (bI b1)), (2, .int x2), (3, .int (x3 + 1))]) rfl ?_
    exact hK25 b1 x2 (x3 + 1) _ _ h
  · replace h := uu_neg c1 h
    refine uu_iload dX12_bytewise_85 (List.mem_of_getElem? (i := 5) rfl) ?_
    refine uu_iload dX12_bytewise_87 (List.mem_of_getElem? (i := 0) rfl) ?_
    refine uu_icmp_ge (tgt := 96) dX12_bytewise_89 (by decide) (fun c2 => ?_) (fun c2 => ?_)
    · replace h := uu_pos c2 h
      refine uu_iconst (v := 1) dX12_bytewise_96 (by decide) ?_
      have hr := Option.some.inj h
      subst hr
      exact uu_iret rfl dX12_bytewise_97
    · replace h := uu_neg c2 h
      refine uu_iconst (v := -1) dX12_bytewise_92 (by decide) ?_
      refine uu_goto (tgt := 97) dX12_bytewise_93 (by decide) ?_
      have hr := Option.some.inj h
      subst hr
      exact uu_iret rfl dX12_bytewise_97
def fb_X12_bytewise_52 (K25 : Bool → Int32 → Int32 → uS → Option Int32) (b1 : Bool) (x2 : Int32) (x3 : Int32) (xs0 : Int32) (s : uS) : Option Int32 := if b1 = true then ((iget 20 s 1094 x3).bind fun v4 => (fn_X12_high v4 s).bind fun v6 => fb_X12_bytewise_76 K25 b1 x2 x3 xs0 v6 s) else ((iget 20 s 1094 x3).bind fun v2 => fb_X12_bytewise_76 K25 b1 x2 x3 xs0 v2 s)
set_option maxRecDepth 100000 in
set_option maxHeartbeats 4000000 in
theorem xb_X12_bytewise_52 {l : Launch} {D : va_G} {A : Nat → ClassId} {B : Nat} {Z : State → Heap → Prop} {vF : Value} (uk : uK B Z vF) {K25 : Bool → Int32 → Int32 → uS → Option Int32} (hK25 : ∀ (b1 : Bool) (x2 : Int32) (x3 : Int32)  (s : uS) (r : Int32), K25 b1 x2 x3 s = some r → GU l D A B Z mX12_bytewise 1 (s, some (.int r)) s 25 [(0, .ref (B + 1079)), (1, .int (bI b1)), (2, .int x2), (3, .int x3)] []) {b1 : Bool} {x2 : Int32} {x3 : Int32} {xs0 : Int32} {s : uS} {r : Int32}  (h : fb_X12_bytewise_52 K25 b1 x2 x3 xs0 s = some r) : GU l D A B Z mX12_bytewise 1 (s, some (.int r)) s 52 [(0, .ref (B + 1079)), (1, .int (bI b1)), (2, .int x2), (3, .int x3)] [.int xs0] := by
  unfold fb_X12_bytewise_52 at h
  refine uu_istore dX12_bytewise_52 (by decide) rfl ?_
  refine uu_iload_n dX12_bytewise_54 rfl (List.mem_of_getElem? (i := 2) rfl) ?_
  refine uu_ifb_eq (tgt := 70) dX12_bytewise_55 (by decide) (fun c1 => ?_) (fun c1 => ?_)
  · replace h := uu_neg c1 h
    refine uu_aload_n dX12_bytewise_70 rfl (List.mem_of_getElem? (i := 1) rfl) ?_
    refine uu_geta (ci := 12) (N := 153) fX12_122 (by decide) so_1079.is (by decide) (c := 1094) (by decide) dX12_bytewise_71 ?_
    refine uu_iload_n dX12_bytewise_74 rfl (List.mem_of_getElem? (i := 4) rfl) ?_
    obtain ⟨v2, e3, h⟩ := uu_ob h
    refine uu_iald e3 dX12_bytewise_75 ?_
    refine uu_lv [1, 2, 3, 4, 0] (lv' := [(0, .ref (B + 1079)), (1, .int (bI b1)), (2, .int x2), (3, .int x3), (4, .int xs0)]) rfl ?_
    exact xb_X12_bytewise_76 uk hK25 h
  · replace h := uu_pos c1 h
    refine uu_aload_n dX12_bytewise_58 rfl (List.mem_of_getElem? (i := 1) rfl) ?_
    refine uu_geta (ci := 12) (N := 153) fX12_122 (by decide) so_1079.is (by decide) (c := 1094) (by decide) dX12_bytewise_59 ?_
    refine uu_iload_n dX12_bytewise_62 rfl (List.mem_of_getElem? (i := 4) rfl) ?_
    obtain ⟨v4, e5, h⟩ := uu_ob h
    refine uu_iald e5 dX12_bytewise_63 ?_
    obtain ⟨v6, e7, h⟩ := uu_ob h
    refine uu_cs (d1 := 0) (As := [.int v4]) (st := []) (st' := [.int v6]) (xc_X12_high uk  e7) kX12_high lX12_607 sX12_high (by decide) (Nat.le_of_ble_eq_true rfl) dX12_bytewise_64 rfl ?_
    refine uu_goto (tgt := 76) dX12_bytewise_67 (by decide) ?_
    refine uu_lv [1, 2, 3, 4, 0] (lv' := [(0, .ref (B + 1079)), (1, .int (bI b1)), (2, .int x2), (3, .int x3), (4, .int xs0)]) rfl ?_
    exact xb_X12_bytewise_76 uk hK25 h
def fb_X12_bytewise_25 (K25 : Bool → Int32 → Int32 → uS → Option Int32) (b1 : Bool) (x2 : Int32) (x3 : Int32) (s : uS) : Option Int32 := if x2 ≤ x3 then (if (s.I 1079 23) ≤ (s.I 1079 21) then (if (s.I 1079 21) ≤ (s.I 1079 23) then (some (0 : Int32)) else (some (1 : Int32))) else (some (-1 : Int32))) else (if b1 = true then ((iget 20 s 1093 x3).bind fun v7 => (fn_X12_high v7 s).bind fun v9 => fb_X12_bytewise_52 K25 b1 x2 x3 v9 s) else ((iget 20 s 1093 x3).bind fun v5 => fb_X12_bytewise_52 K25 b1 x2 x3 v5 s))
set_option maxRecDepth 100000 in
set_option maxHeartbeats 4000000 in
theorem xb_X12_bytewise_25 {l : Launch} {D : va_G} {A : Nat → ClassId} {B : Nat} {Z : State → Heap → Prop} {vF : Value} (uk : uK B Z vF) {K25 : Bool → Int32 → Int32 → uS → Option Int32} (hK25 : ∀ (b1 : Bool) (x2 : Int32) (x3 : Int32)  (s : uS) (r : Int32), K25 b1 x2 x3 s = some r → GU l D A B Z mX12_bytewise 1 (s, some (.int r)) s 25 [(0, .ref (B + 1079)), (1, .int (bI b1)), (2, .int x2), (3, .int x3)] []) {b1 : Bool} {x2 : Int32} {x3 : Int32} {s : uS} {r : Int32}  (h : fb_X12_bytewise_25 K25 b1 x2 x3 s = some r) : GU l D A B Z mX12_bytewise 1 (s, some (.int r)) s 25 [(0, .ref (B + 1079)), (1, .int (bI b1)), (2, .int x2), (3, .int x3)] [] := by
  unfold fb_X12_bytewise_25 at h
  refine uu_iload_n dX12_bytewise_25 rfl (List.mem_of_getElem? (i := 3) rfl) ?_
  refine uu_iload_n dX12_bytewise_26 rfl (List.mem_of_getElem? (i := 2) rfl) ?_
  refine uu_icmp_ge (tgt := 104) dX12_bytewise_27 (by decide) (fun c1 => ?_) (fun c1 => ?_)
  · replace h := uu_pos c1 h
    refine uu_aload_n dX12_bytewise_104 rfl (List.mem_of_getElem? (i := 0) rfl) ?_
    refine uu_geti (ci := 12) (N := 153) fX12_110 (by decide) so_1079.is (by decide) (by decide) dX12_bytewise_105 ?_
    refine uu_aload_n dX12_bytewise_108 rfl (List.mem_of_getElem? (i := 0) rfl) ?_
    refine uu_geti (ci := 12) (N := 153) fX12_113 (by decide) so_1079.is (by decide) (by decide) dX12_bytewise_109 ?_
    refine uu_icmp_ge (tgt := 119) dX12_bytewise_112 (by decide) (fun c2 => ?_) (fun c2 => ?_)
    · replace h := uu_pos c2 h
      refine uu_aload_n dX12_bytewise_119 rfl (List.mem_of_getElem? (i := 0) rfl) ?_
      refine uu_geti (ci := 12) (N := 153) fX12_110 (by decide) so_1079.is (by decide) (by decide) dX12_bytewise_120 ?_
      refine uu_aload_n dX12_bytewise_123 rfl (List.mem_of_getElem? (i := 0) rfl) ?_
      refine uu_geti (ci := 12) (N := 153) fX12_113 (by decide) so_1079.is (by decide) (by decide) dX12_bytewise_124 ?_
      refine uu_icmp_le (tgt := 134) dX12_bytewise_127 (by decide) (fun c3 => ?_) (fun c3 => ?_)
      · replace h := uu_pos c3 h
        refine uu_iconst (v := 0) dX12_bytewise_134 (by decide) ?_
        have hr := Option.some.inj h
        subst hr
        exact uu_iret rfl dX12_bytewise_135
      · replace h := uu_neg c3 h
        refine uu_iconst (v := 1) dX12_bytewise_130 (by decide) ?_
        refine uu_goto (tgt := 135) dX12_bytewise_131 (by decide) ?_
        have hr := Option.some.inj h
        subst hr
        exact uu_iret rfl dX12_bytewise_135
    · replace h := uu_neg c2 h
      refine uu_iconst (v := -1) dX12_bytewise_115 (by decide) ?_
      refine uu_goto (tgt := 135) dX12_bytewise_116 (by decide) ?_
      have hr := Option.some.inj h
      subst hr
      exact uu_iret rfl dX12_bytewise_135
  · replace h := uu_neg c1 h
    refine uu_iload_n dX12_bytewise_30 rfl (List.mem_of_getElem? (i := 1) rfl) ?_
    refine uu_ifb_eq (tgt := 46) dX12_bytewise_31 (by decide) (fun c4 => ?_) (fun c4 => ?_)
    · replace h := uu_neg c4 h
      refine uu_aload_n dX12_bytewise_46 rfl (List.mem_of_getElem? (i := 0) rfl) ?_
      refine uu_geta (ci := 12) (N := 153) fX12_116 (by decide) so_1079.is (by decide) (c := 1093) (by decide) dX12_bytewise_47 ?_
      refine uu_iload_n dX12_bytewise_50 rfl (List.mem_of_getElem? (i := 3) rfl) ?_
      obtain ⟨v5, e6, h⟩ := uu_ob h
      refine uu_iald e6 dX12_bytewise_51 ?_
      exact xb_X12_bytewise_52 uk hK25 h
    · replace h := uu_pos c4 h
      refine uu_aload_n dX12_bytewise_34 rfl (List.mem_of_getElem? (i := 0) rfl) ?_
      refine uu_geta (ci := 12) (N := 153) fX12_116 (by decide) so_1079.is (by decide) (c := 1093) (by decide) dX12_bytewise_35 ?_
      refine uu_iload_n dX12_bytewise_38 rfl (List.mem_of_getElem? (i := 3) rfl) ?_
      obtain ⟨v7, e8, h⟩ := uu_ob h
      refine uu_iald e8 dX12_bytewise_39 ?_
      obtain ⟨v9, e10, h⟩ := uu_ob h
      refine uu_cs (d1 := 0) (As := [.int v7]) (st := []) (st' := [.int v9]) (xc_X12_high uk  e10) kX12_high lX12_607 sX12_high (by decide) (Nat.le_of_ble_eq_true rfl) dX12_bytewise_40 rfl ?_
      refine uu_goto (tgt := 52) dX12_bytewise_43 (by decide) ?_
      exact xb_X12_bytewise_52 uk hK25 h
def fn_X12_bytewise_25  : Nat → Bool → Int32 → Int32 → uS → Option Int32
  | 0 => fun _ _ _ _ => none
  | n + 1 => fb_X12_bytewise_25 (fn_X12_bytewise_25  n)
set_option maxRecDepth 100000 in
set_option maxHeartbeats 4000000 in
theorem xn_X12_bytewise_25 {l : Launch} {D : va_G} {A : Nat → ClassId} {B : Nat} {Z : State → Heap → Prop} {vF : Value} (uk : uK B Z vF)   : ∀ (n : Nat) (b1 : Bool) (x2 : Int32) (x3 : Int32)  (s : uS) (r : Int32), fn_X12_bytewise_25  n b1 x2 x3 s = some r → GU l D A B Z mX12_bytewise 1 (s, some (.int r)) s 25 [(0, .ref (B + 1079)), (1, .int (bI b1)), (2, .int x2), (3, .int x3)] [] := by
  intro n
  induction n with
  | zero => intro b1 x2 x3 s r h
            cases h
  | succ n ih => intro b1 x2 x3 s r h
                 exact xb_X12_bytewise_25 uk ih  h
def fn_X12_bytewise (b1 : Bool) (s : uS) : Option Int32 := if (s.I 1079 23) ≤ (s.I 1079 21) then (fn_X12_bytewise_25 uFu b1 (s.I 1079 23) 0 s) else (fn_X12_bytewise_25 uFu b1 (s.I 1079 21) 0 s)
set_option maxRecDepth 100000 in
set_option maxHeartbeats 4000000 in
theorem xc_X12_bytewise {l : Launch} {D : va_G} {A : Nat → ClassId} {B : Nat} {Z : State → Heap → Prop} {vF : Value} (uk : uK B Z vF) {b1 : Bool} {s : uS} {r : Int32}  (h : fn_X12_bytewise b1 s = some r) : CU l D A B Z 1 mX12_bytewise s [.ref (B + 1079), .int (bI b1)] (s, some (.int r)) := by
  unfold fn_X12_bytewise at h
  refine cu_of rfl uk.1.1 (Nat.le_of_ble_eq_true rfl) ?_
  show GU _ _ _ _ _ _ _ _ _ 0 [(0, .ref (B + 1079)), (1, .int (bI b1))] []
  refine uu_aload_n dX12_bytewise_0 rfl (List.mem_of_getElem? (i := 0) rfl) ?_
  refine uu_geti (ci := 12) (N := 153) fX12_110 (by decide) so_1079.is (by decide) (by decide) dX12_bytewise_1 ?_
  refine uu_aload_n dX12_bytewise_4 rfl (List.mem_of_getElem? (i := 0) rfl) ?_
  refine uu_geti (ci := 12) (N := 153) fX12_113 (by decide) so_1079.is (by decide) (by decide) dX12_bytewise_5 ?_
  refine uu_icmp_ge (tgt := 18) dX12_bytewise_8 (by decide) (fun c1 => ?_) (fun c1 => ?_)
  · replace h := uu_pos c1 h
    refine uu_aload_n dX12_bytewise_18 rfl (List.mem_of_getElem? (i := 0) rfl) ?_
    refine uu_geti (ci := 12) (N := 153) fX12_113 (by decide) so_1079.is (by decide) (by decide) dX12_bytewise_19 ?_
    refine uu_istore_n dX12_bytewise_22 rfl (by decide) rfl ?_
    refine uu_iconst (v := 0) dX12_bytewise_23 (by decide) ?_
    refine uu_istore_n dX12_bytewise_24 rfl (by decide) rfl ?_
    refine uu_lv [2, 3, 1, 0] (lv' := [(0, .ref (B + 1079)), (1, .int (bI b1)), (2, .int (s.I 1079 23)), (3, .int 0)]) rfl ?_
    exact xn_X12_bytewise_25 uk  _ _ _ _ _ _ h
  · replace h := uu_neg c1 h
    refine uu_aload_n dX12_bytewise_11 rfl (List.mem_of_getElem? (i := 0) rfl) ?_
    refine uu_geti (ci := 12) (N := 153) fX12_110 (by decide) so_1079.is (by decide) (by decide) dX12_bytewise_12 ?_
    refine uu_goto (tgt := 22) dX12_bytewise_15 (by decide) ?_
    refine uu_istore_n dX12_bytewise_22 rfl (by decide) rfl ?_
    refine uu_iconst (v := 0) dX12_bytewise_23 (by decide) ?_
    refine uu_istore_n dX12_bytewise_24 rfl (by decide) rfl ?_
    refine uu_lv [2, 3, 1, 0] (lv' := [(0, .ref (B + 1079)), (1, .int (bI b1)), (2, .int (s.I 1079 21)), (3, .int 0)]) rfl ?_
    exact xn_X12_bytewise_25 uk  _ _ _ _ _ _ h
abbrev mX12_related : hM := (yX12_related, cX12_related, 2, (some (.boolean)))
theorem dX12_related_0 : decode cX12_related 0 = .ok (.iload_n 1, 1) := by decide +kernel
theorem dX12_related_1 : decode cX12_related 1 = .ok (.tableswitch 85 0 4 #[35, 45, 55, 65, 75], 35) := by decide +kernel
theorem dX12_related_36 : decode cX12_related 36 = .ok (.iload_n 0, 1) := by decide +kernel
theorem dX12_related_37 : decode cX12_related 37 = .ok (.ifCond .le 7, 3) := by decide +kernel
theorem dX12_related_44 : decode cX12_related 44 = .ok (.iconst 0, 1) := by decide +kernel
theorem dX12_related_45 : decode cX12_related 45 = .ok (.ireturn, 1) := by decide +kernel
theorem dX12_related_40 : decode cX12_related 40 = .ok (.iconst 1, 1) := by decide +kernel
theorem dX12_related_41 : decode cX12_related 41 = .ok (.goto 4, 3) := by decide +kernel
theorem dX12_related_46 : decode cX12_related 46 = .ok (.iload_n 0, 1) := by decide +kernel
theorem dX12_related_47 : decode cX12_related 47 = .ok (.ifCond .lt 7, 3) := by decide +kernel
theorem dX12_related_54 : decode cX12_related 54 = .ok (.iconst 0, 1) := by decide +kernel
theorem dX12_related_55 : decode cX12_related 55 = .ok (.ireturn, 1) := by decide +kernel
theorem dX12_related_50 : decode cX12_related 50 = .ok (.iconst 1, 1) := by decide +kernel
theorem dX12_related_51 : decode cX12_related 51 = .ok (.goto 4, 3) := by decide +kernel
theorem dX12_related_56 : decode cX12_related 56 = .ok (.iload_n 0, 1) := by decide +kernel
theorem dX12_related_57 : decode cX12_related 57 = .ok (.ifCond .ge 7, 3) := by decide +kernel
theorem dX12_related_64 : decode cX12_related 64 = .ok (.iconst 0, 1) := by decide +kernel
theorem dX12_related_65 : decode cX12_related 65 = .ok (.ireturn, 1) := by decide +kernel
theorem dX12_related_60 : decode cX12_related 60 = .ok (.iconst 1, 1) := by decide +kernel
theorem dX12_related_61 : decode cX12_related 61 = .ok (.goto 4, 3) := by decide +kernel
theorem dX12_related_66 : decode cX12_related 66 = .ok (.iload_n 0, 1) := by decide +kernel
theorem dX12_related_67 : decode cX12_related 67 = .ok (.ifCond .gt 7, 3) := by decide +kernel
theorem dX12_related_74 : decode cX12_related 74 = .ok (.iconst 0, 1) := by decide +kernel
theorem dX12_related_75 : decode cX12_related 75 = .ok (.ireturn, 1) := by decide +kernel
theorem dX12_related_70 : decode cX12_related 70 = .ok (.iconst 1, 1) := by decide +kernel
theorem dX12_related_71 : decode cX12_related 71 = .ok (.goto 4, 3) := by decide +kernel
theorem dX12_related_76 : decode cX12_related 76 = .ok (.iload_n 0, 1) := by decide +kernel
theorem dX12_related_77 : decode cX12_related 77 = .ok (.ifCond .ne 7, 3) := by decide +kernel
theorem dX12_related_84 : decode cX12_related 84 = .ok (.iconst 0, 1) := by decide +kernel
theorem dX12_related_85 : decode cX12_related 85 = .ok (.ireturn, 1) := by decide +kernel
theorem dX12_related_80 : decode cX12_related 80 = .ok (.iconst 1, 1) := by decide +kernel
theorem dX12_related_81 : decode cX12_related 81 = .ok (.goto 4, 3) := by decide +kernel
theorem dX12_related_86 : decode cX12_related 86 = .ok (.iload_n 0, 1) := by decide +kernel
theorem dX12_related_87 : decode cX12_related 87 = .ok (.ifCond .eq 7, 3) := by decide +kernel
theorem dX12_related_94 : decode cX12_related 94 = .ok (.iconst 0, 1) := by decide +kernel
theorem dX12_related_95 : decode cX12_related 95 = .ok (.ireturn, 1) := by decide +kernel
theorem dX12_related_90 : decode cX12_related 90 = .ok (.iconst 1, 1) := by decide +kernel
theorem dX12_related_91 : decode cX12_related 91 = .ok (.goto 4, 3) := by decide +kernel
def fn_X12_related (x0 : Int32) (x1 : Int32) (s : uS) : Option Bool := if x1 = 0 then (if x0 ≤ 0 then (some false) else (some true)) else (if x1 = 1 then (if x0 < 0 then (some false) else (some true)) else (if x1 = 2 then (if 0 ≤ x0 then (some false) else (some true)) else (if x1 = 3 then (if 0 < x0 then (some false) else (some true)) else (if x1 = 4 then (if x0 = 0 then (some true) else (some false)) else (if x0 = 0 then (some false) else (some true))))))
set_option maxRecDepth 100000 in
set_option maxHeartbeats 4000000 in
theorem xc_X12_related {l : Launch} {D : va_G} {A : Nat → ClassId} {B : Nat} {Z : State → Heap → Prop} {vF : Value} (uk : uK B Z vF) {x0 : Int32} {x1 : Int32} {s : uS} {r : Bool}  (h : fn_X12_related x0 x1 s = some r) : CU l D A B Z 0 mX12_related s [.int x0, .int x1] (s, some (.int (bI r))) := by
  unfold fn_X12_related at h
  refine cu_of rfl uk.1.1 (Nat.le_of_ble_eq_true rfl) ?_
  show GU _ _ _ _ _ _ _ _ _ 0 [(0, .int x0), (1, .int x1)] []
  refine uu_iload_n dX12_related_0 rfl (List.mem_of_getElem? (i := 1) rfl) ?_
  by_cases c1_0 : x1 = 0
  · replace h := uu_pos c1_0 h
    refine uu_tabE (tgt := 36) (off := 35) (v := 0) dX12_related_1 c1_0 (by decide) (by decide) rfl (by decide) ?_
    refine uu_iload_n dX12_related_36 rfl (List.mem_of_getElem? (i := 0) rfl) ?_
    refine uu_if_le (tgt := 44) dX12_related_37 (by decide) (fun c1 => ?_) (fun c1 => ?_)
    · replace h := uu_pos c1 h
      refine uu_iconst (v := 0) dX12_related_44 (by decide) ?_
      have hr := Option.some.inj h
      subst hr
      exact uu_zret (x := bI false) rfl (bI_z _) dX12_related_45
    · replace h := uu_neg c1 h
      refine uu_iconst (v := 1) dX12_related_40 (by decide) ?_
      refine uu_goto (tgt := 45) dX12_related_41 (by decide) ?_
      have hr := Option.some.inj h
      subst hr
      exact uu_zret (x := bI true) rfl (bI_z _) dX12_related_45
  replace h := uu_neg c1_0 h
  by_cases c1_1 : x1 = 1
  · replace h := uu_pos c1_1 h
    refine uu_tabE (tgt := 46) (off := 45) (v := 1) dX12_related_1 c1_1 (by decide) (by decide) rfl (by decide) ?_
    refine uu_iload_n dX12_related_46 rfl (List.mem_of_getElem? (i := 0) rfl) ?_
    refine uu_if_lt (tgt := 54) dX12_related_47 (by decide) (fun c2 => ?_) (fun c2 => ?_)
    · replace h := uu_pos c2 h
      refine uu_iconst (v := 0) dX12_related_54 (by decide) ?_
      have hr := Option.some.inj h
      subst hr
      exact uu_zret (x := bI false) rfl (bI_z _) dX12_related_55
    · replace h := uu_neg c2 h
      refine uu_iconst (v := 1) dX12_related_50 (by decide) ?_
      refine uu_goto (tgt := 55) dX12_related_51 (by decide) ?_
      have hr := Option.some.inj h
      subst hr
      exact uu_zret (x := bI true) rfl (bI_z _) dX12_related_55
  replace h := uu_neg c1_1 h
  by_cases c1_2 : x1 = 2
  · replace h := uu_pos c1_2 h
    refine uu_tabE (tgt := 56) (off := 55) (v := 2) dX12_related_1 c1_2 (by decide) (by decide) rfl (by decide) ?_
    refine uu_iload_n dX12_related_56 rfl (List.mem_of_getElem? (i := 0) rfl) ?_
    refine uu_if_ge (tgt := 64) dX12_related_57 (by decide) (fun c3 => ?_) (fun c3 => ?_)
    · replace h := uu_pos c3 h
      refine uu_iconst (v := 0) dX12_related_64 (by decide) ?_
      have hr := Option.some.inj h
      subst hr
      exact uu_zret (x := bI false) rfl (bI_z _) dX12_related_65
    · replace h := uu_neg c3 h
      refine uu_iconst (v := 1) dX12_related_60 (by decide) ?_
      refine uu_goto (tgt := 65) dX12_related_61 (by decide) ?_
      have hr := Option.some.inj h
      subst hr
      exact uu_zret (x := bI true) rfl (bI_z _) dX12_related_65
  replace h := uu_neg c1_2 h
  by_cases c1_3 : x1 = 3
  · replace h := uu_pos c1_3 h
    refine uu_tabE (tgt := 66) (off := 65) (v := 3) dX12_related_1 c1_3 (by decide) (by decide) rfl (by decide) ?_
    refine uu_iload_n dX12_related_66 rfl (List.mem_of_getElem? (i := 0) rfl) ?_
    refine uu_if_gt (tgt := 74) dX12_related_67 (by decide) (fun c4 => ?_) (fun c4 => ?_)
    · replace h := uu_pos c4 h
      refine uu_iconst (v := 0) dX12_related_74 (by decide) ?_
      have hr := Option.some.inj h
      subst hr
      exact uu_zret (x := bI false) rfl (bI_z _) dX12_related_75
    · replace h := uu_neg c4 h
      refine uu_iconst (v := 1) dX12_related_70 (by decide) ?_
      refine uu_goto (tgt := 75) dX12_related_71 (by decide) ?_
      have hr := Option.some.inj h
      subst hr
      exact uu_zret (x := bI true) rfl (bI_z _) dX12_related_75
  replace h := uu_neg c1_3 h
  by_cases c1_4 : x1 = 4
  · replace h := uu_pos c1_4 h
    refine uu_tabE (tgt := 76) (off := 75) (v := 4) dX12_related_1 c1_4 (by decide) (by decide) rfl (by decide) ?_
    refine uu_iload_n dX12_related_76 rfl (List.mem_of_getElem? (i := 0) rfl) ?_
    refine uu_if_ne (tgt := 84) dX12_related_77 (by decide) (fun c5 => ?_) (fun c5 => ?_)
    · replace h := uu_neg c5 h
      refine uu_iconst (v := 0) dX12_related_84 (by decide) ?_
      have hr := Option.some.inj h
      subst hr
      exact uu_zret (x := bI false) rfl (bI_z _) dX12_related_85
    · replace h := uu_pos c5 h
      refine uu_iconst (v := 1) dX12_related_80 (by decide) ?_
      refine uu_goto (tgt := 85) dX12_related_81 (by decide) ?_
      have hr := Option.some.inj h
      subst hr
      exact uu_zret (x := bI true) rfl (bI_z _) dX12_related_85
  replace h := uu_neg c1_4 h
  have cx1 : (x1).toInt < 0 ∨ 4 < (x1).toInt := by
    refine Decidable.byContradiction fun q => ?_
    rcases (show (x1).toInt = 0 ∨ (x1).toInt = 1 ∨ (x1).toInt = 2 ∨ (x1).toInt = 3 ∨ (x1).toInt = 4 by omega) with q | q | q | q | q
    · exact c1_0 (sw_eq q (by decide))
    · exact c1_1 (sw_eq q (by decide))
    · exact c1_2 (sw_eq q (by decide))
    · exact c1_3 (sw_eq q (by decide))
    · exact c1_4 (sw_eq q (by decide))
  refine uu_tableOut (tgt := 86) dX12_related_1 cx1 (by decide) ?_
  refine uu_iload_n dX12_related_86 rfl (List.mem_of_getElem? (i := 0) rfl) ?_
  refine uu_if_eq (tgt := 94) dX12_related_87 (by decide) (fun c6 => ?_) (fun c6 => ?_)
  · replace h := uu_pos c6 h
    refine uu_iconst (v := 0) dX12_related_94 (by decide) ?_
    have hr := Option.some.inj h
    subst hr
    exact uu_zret (x := bI false) rfl (bI_z _) dX12_related_95
  · replace h := uu_neg c6 h
    refine uu_iconst (v := 1) dX12_related_90 (by decide) ?_
    refine uu_goto (tgt := 95) dX12_related_91 (by decide) ?_
    have hr := Option.some.inj h
    subst hr
    exact uu_zret (x := bI true) rfl (bI_z _) dX12_related_95
abbrev mX12_same : hM := (yX12_same, cX12_same, 3, (some (.boolean)))
theorem dX12_same_0 : decode cX12_same 0 = .ok (.iload_n 2, 1) := by decide +kernel
theorem dX12_same_1 : decode cX12_same 1 = .ok (.ifCond .eq 22, 3) := by decide +kernel
theorem dX12_same_23 : decode cX12_same 23 = .ok (.iload_n 0, 1) := by decide +kernel
theorem dX12_same_24 : decode cX12_same 24 = .ok (.iload_n 1, 1) := by decide +kernel
theorem dX12_same_25 : decode cX12_same 25 = .ok (.if_icmp .ne 7, 3) := by decide +kernel
theorem dX12_same_32 : decode cX12_same 32 = .ok (.iconst 0, 1) := by decide +kernel
theorem dX12_same_33 : decode cX12_same 33 = .ok (.ireturn, 1) := by decide +kernel
theorem dX12_same_28 : decode cX12_same 28 = .ok (.iconst 1, 1) := by decide +kernel
theorem dX12_same_29 : decode cX12_same 29 = .ok (.goto 4, 3) := by decide +kernel
theorem dX12_same_4 : decode cX12_same 4 = .ok (.iload_n 0, 1) := by decide +kernel
theorem dX12_same_5 : decode cX12_same 5 = .ok (.invokestatic 607, 3) := by decide +kernel
theorem dX12_same_8 : decode cX12_same 8 = .ok (.iload_n 1, 1) := by decide +kernel
theorem dX12_same_9 : decode cX12_same 9 = .ok (.invokestatic 607, 3) := by decide +kernel
theorem dX12_same_12 : decode cX12_same 12 = .ok (.if_icmp .ne 7, 3) := by decide +kernel
theorem dX12_same_19 : decode cX12_same 19 = .ok (.iconst 0, 1) := by decide +kernel
theorem dX12_same_20 : decode cX12_same 20 = .ok (.goto 13, 3) := by decide +kernel
theorem dX12_same_15 : decode cX12_same 15 = .ok (.iconst 1, 1) := by decide +kernel
theorem dX12_same_16 : decode cX12_same 16 = .ok (.goto 17, 3) := by decide +kernel
def fn_X12_same (x0 : Int32) (x1 : Int32) (b2 : Bool) (s : uS) : Option Bool := if b2 = true then ((fn_X12_high x0 s).bind fun v3 => (fn_X12_high x1 s).bind fun v5 => if v3 = v5 then (some true) else (some false)) else (if x0 = x1 then (some true) else (some false))
set_option maxRecDepth 100000 in
set_option maxHeartbeats 4000000 in
theorem xc_X12_same {l : Launch} {D : va_G} {A : Nat → ClassId} {B : Nat} {Z : State → Heap → Prop} {vF : Value} (uk : uK B Z vF) {x0 : Int32} {x1 : Int32} {b2 : Bool} {s : uS} {r : Bool}  (h : fn_X12_same x0 x1 b2 s = some r) : CU l D A B Z 1 mX12_same s [.int x0, .int x1, .int (bI b2)] (s, some (.int (bI r))) := by
  unfold fn_X12_same at h
  refine cu_of rfl uk.1.1 (Nat.le_of_ble_eq_true rfl) ?_
  show GU _ _ _ _ _ _ _ _ _ 0 [(0, .int x0), (1, .int x1), (2, .int (bI b2))] []
  refine uu_iload_n dX12_same_0 rfl (List.mem_of_getElem? (i := 2) rfl) ?_
  refine uu_ifb_eq (tgt := 23) dX12_same_1 (by decide) (fun c1 => ?_) (fun c1 => ?_)
  · replace h := uu_neg c1 h
    refine uu_iload_n dX12_same_23 rfl (List.mem_of_getElem? (i := 0) rfl) ?_
    refine uu_iload_n dX12_same_24 rfl (List.mem_of_getElem? (i := 1) rfl) ?_
    refine uu_icmp_ne (tgt := 32) dX12_same_25 (by decide) (fun c2 => ?_) (fun c2 => ?_)
    · replace h := uu_neg c2 h
      refine uu_iconst (v := 0) dX12_same_32 (by decide) ?_
      have hr := Option.some.inj h
      subst hr
      exact uu_zret (x := bI false) rfl (bI_z _) dX12_same_33
    · replace h := uu_pos c2 h
      refine uu_iconst (v := 1) dX12_same_28 (by decide) ?_
      refine uu_goto (tgt := 33) dX12_same_29 (by decide) ?_
      have hr := Option.some.inj h
      subst hr
      exact uu_zret (x := bI true) rfl (bI_z _) dX12_same_33
  · replace h := uu_pos c1 h
    refine uu_iload_n dX12_same_4 rfl (List.mem_of_getElem? (i := 0) rfl) ?_
    obtain ⟨v3, e4, h⟩ := uu_ob h
    refine uu_cs (d1 := 0) (As := [.int x0]) (st := []) (st' := [.int v3]) (xc_X12_high uk  e4) kX12_high lX12_607 sX12_high (by decide) (Nat.le_of_ble_eq_true rfl) dX12_same_5 rfl ?_
    refine uu_iload_n dX12_same_8 rfl (List.mem_of_getElem? (i := 1) rfl) ?_
    obtain ⟨v5, e6, h⟩ := uu_ob h
    refine uu_cs (d1 := 0) (As := [.int x1]) (st := [.int v3]) (st' := [.int v5, .int v3]) (xc_X12_high uk  e6) kX12_high lX12_607 sX12_high (by decide) (Nat.le_of_ble_eq_true rfl) dX12_same_9 rfl ?_
    refine uu_icmp_ne (tgt := 19) dX12_same_12 (by decide) (fun c7 => ?_) (fun c7 => ?_)
    · replace h := uu_neg c7 h
      refine uu_iconst (v := 0) dX12_same_19 (by decide) ?_
      refine uu_goto (tgt := 33) dX12_same_20 (by decide) ?_
      have hr := Option.some.inj h
      subst hr
      exact uu_zret (x := bI false) rfl (bI_z _) dX12_same_33
    · replace h := uu_pos c7 h
      refine uu_iconst (v := 1) dX12_same_15 (by decide) ?_
      refine uu_goto (tgt := 33) dX12_same_16 (by decide) ?_
      have hr := Option.some.inj h
      subst hr
      exact uu_zret (x := bI true) rfl (bI_z _) dX12_same_33
abbrev mX12_contains : hM := (yX12_contains, cX12_contains, 5, (some (.boolean)))
theorem dX12_contains_26 : decode cX12_contains 26 = .ok (.iload 4, 2) := by decide +kernel
theorem dX12_contains_28 : decode cX12_contains 28 = .ok (.aload_n 0, 1) := by decide +kernel
theorem dX12_contains_29 : decode cX12_contains 29 = .ok (.getfield 113, 3) := by decide +kernel
theorem dX12_contains_32 : decode cX12_contains 32 = .ok (.if_icmp .ge 34, 3) := by decide +kernel
theorem dX12_contains_66 : decode cX12_contains 66 = .ok (.iinc 3 1, 3) := by decide +kernel
theorem dX12_contains_69 : decode cX12_contains 69 = .ok (.goto (-65), 3) := by decide +kernel
theorem dX12_contains_35 : decode cX12_contains 35 = .ok (.iload_n 2, 1) := by decide +kernel
theorem dX12_contains_36 : decode cX12_contains 36 = .ok (.ifCond .eq 30, 3) := by decide +kernel
theorem dX12_contains_39 : decode cX12_contains 39 = .ok (.aload_n 0, 1) := by decide +kernel
theorem dX12_contains_40 : decode cX12_contains 40 = .ok (.getfield 116, 3) := by decide +kernel
theorem dX12_contains_43 : decode cX12_contains 43 = .ok (.iload_n 3, 1) := by decide +kernel
theorem dX12_contains_44 : decode cX12_contains 44 = .ok (.iload 4, 2) := by decide +kernel
theorem dX12_contains_46 : decode cX12_contains 46 = .ok (.iadd, 1) := by decide +kernel
theorem dX12_contains_47 : decode cX12_contains 47 = .ok (.iaload, 1) := by decide +kernel
theorem dX12_contains_48 : decode cX12_contains 48 = .ok (.aload_n 0, 1) := by decide +kernel
theorem dX12_contains_49 : decode cX12_contains 49 = .ok (.getfield 122, 3) := by decide +kernel
theorem dX12_contains_52 : decode cX12_contains 52 = .ok (.iload 4, 2) := by decide +kernel
theorem dX12_contains_54 : decode cX12_contains 54 = .ok (.iaload, 1) := by decide +kernel
theorem dX12_contains_55 : decode cX12_contains 55 = .ok (.iload_n 1, 1) := by decide +kernel
theorem kX12_same : h_ml mX12_same 3 := ⟨h_t9 136 rfl rfl, h_t1 16 rfl rfl, ⟨by decide, by decide, by decide +kernel⟩, by decide⟩
theorem lX12_610 : Cond.methodLink RX12 610 mX12_same.1 ∈ lw_g := h_t9 134 rfl rfl
theorem sX12_same : Cond.static mX12_same.1 ∈ lw_g := h_t9 135 rfl rfl
theorem dX12_contains_56 : decode cX12_contains 56 = .ok (.invokestatic 610, 3) := by decide +kernel
theorem dX12_contains_59 : decode cX12_contains 59 = .ok (.istore_n 2, 1) := by decide +kernel
theorem dX12_contains_60 : decode cX12_contains 60 = .ok (.iinc 4 1, 3) := by decide +kernel
theorem dX12_contains_63 : decode cX12_contains 63 = .ok (.goto (-37), 3) := by decide +kernel
theorem dX12_contains_4 : decode cX12_contains 4 = .ok (.iload_n 3, 1) := by decide +kernel
theorem dX12_contains_5 : decode cX12_contains 5 = .ok (.aload_n 0, 1) := by decide +kernel
theorem dX12_contains_6 : decode cX12_contains 6 = .ok (.getfield 113, 3) := by decide +kernel
theorem dX12_contains_9 : decode cX12_contains 9 = .ok (.iadd, 1) := by decide +kernel
theorem dX12_contains_10 : decode cX12_contains 10 = .ok (.aload_n 0, 1) := by decide +kernel
theorem dX12_contains_11 : decode cX12_contains 11 = .ok (.getfield 110, 3) := by decide +kernel
theorem dX12_contains_14 : decode cX12_contains 14 = .ok (.if_icmp .gt 58, 3) := by decide +kernel
theorem dX12_contains_72 : decode cX12_contains 72 = .ok (.iload_n 2, 1) := by decide +kernel
theorem dX12_contains_73 : decode cX12_contains 73 = .ok (.ireturn, 1) := by decide +kernel
theorem dX12_contains_17 : decode cX12_contains 17 = .ok (.iload_n 2, 1) := by decide +kernel
theorem dX12_contains_18 : decode cX12_contains 18 = .ok (.ifCond .ne 54, 3) := by decide +kernel
theorem dX12_contains_21 : decode cX12_contains 21 = .ok (.iconst 1, 1) := by decide +kernel
theorem dX12_contains_22 : decode cX12_contains 22 = .ok (.istore_n 2, 1) := by decide +kernel
theorem dX12_contains_23 : decode cX12_contains 23 = .ok (.iconst 0, 1) := by decide +kernel
theorem dX12_contains_24 : decode cX12_contains 24 = .ok (.istore 4, 2) := by decide +kernel
theorem dX12_contains_0 : decode cX12_contains 0 = .ok (.iconst 0, 1) := by decide +kernel
theorem dX12_contains_1 : decode cX12_contains 1 = .ok (.istore_n 2, 1) := by decide +kernel
theorem dX12_contains_2 : decode cX12_contains 2 = .ok (.iconst 0, 1) := by decide +kernel
theorem dX12_contains_3 : decode cX12_contains 3 = .ok (.istore_n 3, 1) := by decide +kernel
def fb_X12_contains_26 (K4 : Bool → Bool → Int32 → uS → Option Bool) (K26 : Bool → Bool → Int32 → Int32 → uS → Option Bool) (b1 : Bool) (b2 : Bool) (x3 : Int32) (x4 : Int32) (s : uS) : Option Bool := if (s.I 1079 23) ≤ x4 then (K4 b1 b2 (x3 + 1) s) else (if b2 = true then ((iget 20 s 1093 (x3 + x4)).bind fun v3 => (iget 20 s 1094 x4).bind fun v5 => (fn_X12_same v3 v5 b1 s).bind fun v7 => K26 b1 v7 x3 (x4 + 1) s) else (K4 b1 b2 (x3 + 1) s))
set_option maxRecDepth 100000 in
set_option maxHeartbeats 4000000 in
theorem xb_X12_contains_26 {l : Launch} {D : va_G} {A : Nat → ClassId} {B : Nat} {Z : State → Heap → Prop} {vF : Value} (uk : uK B Z vF) {K4 : Bool → Bool → Int32 → uS → Option Bool} {K26 : Bool → Bool → Int32 → Int32 → uS → Option Bool} (hK4 : ∀ (b1 : Bool) (b2 : Bool) (x3 : Int32)  (s : uS) (r : Bool), K4 b1 b2 x3 s = some r → GU l D A B Z mX12_contains 2 (s, some (.int (bI r))) s 4 [(0, .ref (B + 1079)), (1, .int (bI b1)), (2, .int (bI b2)), (3, .int x3)] []) (hK26 : ∀ (b1 : Bool) (b2 : Bool) (x3 : Int32) (x4 : Int32)  (s : uS) (r : Bool), K26 b1 b2 x3 x4 s = some r → GU l D A B Z mX12_contains 2 (s, some (.int (bI r))) s 26 [(0, .ref (B + 1079)), (1, .int (bI b1)), (2, .int (bI b2)), (3, .int x3), (4, .int x4)] []) {b1 : Bool} {b2 : Bool} {x3 : Int32} {x4 : Int32} {s : uS} {r : Bool}  (h : fb_X12_contains_26 K4 K26 b1 b2 x3 x4 s = some r) : GU l D A B Z mX12_contains 2 (s, some (.int (bI r))) s 26 [(0, .ref (B + 1079)), (1, .int (bI b1)), (2, .int (bI b2)), (3, .int x3), (4, .int x4)] [] := by
  unfold fb_X12_contains_26 at h
  refine uu_iload dX12_contains_26 (List.mem_of_getElem? (i := 4) rfl) ?_
  refine uu_aload_n dX12_contains_28 rfl (List.mem_of_getElem? (i := 0) rfl) ?_
  refine uu_geti (ci := 12) (N := 153) fX12_113 (by decide) so_1079.is (by decide) (by decide) dX12_contains_29 ?_
  refine uu_icmp_ge (tgt := 66) dX12_contains_32 (by decide) (fun c1 => ?_) (fun c1 => ?_)
  · replace h := uu_pos c1 h
    refine uu_iinc (v := x3 + 1) dX12_contains_66 (k := 3) rfl rfl (by decide) rfl ?_
    refine uu_goto (tgt := 4) dX12_contains_69 (by decide) ?_
    refine uu_lv [1, 2, 3, 0] (lv' := [(0, .ref (B + 1079)), (1, .int (bI b1)), (2, .int (bI b2)), (3, .int (x3 + 1))]) rfl ?_
    exact hK4 b1 b2 (x3 + 1) _ _ h
  · replace h := uu_neg c1 h
    refine uu_iload_n dX12_contains_35 rfl (List.mem_of_getElem? (i := 2) rfl) ?_
    refine uu_ifb_eq (tgt := 66) dX12_contains_36 (by decide) (fun c2 => ?_) (fun c2 => ?_)
    · replace h := uu_neg c2 h
      refine uu_iinc (v := x3 + 1) dX12_contains_66 (k := 3) rfl rfl (by decide) rfl ?_
      refine uu_goto (tgt := 4) dX12_contains_69 (by decide) ?_
      refine uu_lv [1, 2, 3, 0] (lv' := [(0, .ref (B + 1079)), (1, .int (bI b1)), (2, .int (bI b2)), (3, .int (x3 + 1))]) rfl ?_
      exact hK4 b1 b2 (x3 + 1) _ _ h
    · replace h := uu_pos c2 h
      refine uu_aload_n dX12_contains_39 rfl (List.mem_of_getElem? (i := 0) rfl) ?_
      refine uu_geta (ci := 12) (N := 153) fX12_116 (by decide) so_1079.is (by decide) (c := 1093) (by decide) dX12_contains_40 ?_
      refine uu_iload_n dX12_contains_43 rfl (List.mem_of_getElem? (i := 3) rfl) ?_
      refine uu_iload dX12_contains_44 (List.mem_of_getElem? (i := 4) rfl) ?_
      refine uu_iadd dX12_contains_46 ?_
      obtain ⟨v3, e4, h⟩ := uu_ob h
      refine uu_iald e4 dX12_contains_47 ?_
      refine uu_aload_n dX12_contains_48 rfl (List.mem_of_getElem? (i := 0) rfl) ?_
      refine uu_geta (ci := 12) (N := 153) fX12_122 (by decide) so_1079.is (by decide) (c := 1094) (by decide) dX12_contains_49 ?_
      refine uu_iload dX12_contains_52 (List.mem_of_getElem? (i := 4) rfl) ?_
      obtain ⟨v5, e6, h⟩ := uu_ob h
      refine uu_iald e6 dX12_contains_54 ?_
      refine uu_iload_n dX12_contains_55 rfl (List.mem_of_getElem? (i := 1) rfl) ?_
      obtain ⟨v7, e8, h⟩ := uu_ob h
      refine uu_cs (d1 := 1) (As := [.int v3, .int v5, .int (bI b1)]) (st := []) (st' := [.int (bI v7)]) (xc_X12_same uk  e8) kX12_same lX12_610 sX12_same (by decide) (Nat.le_of_ble_eq_true rfl) dX12_contains_56 rfl ?_
      refine uu_istore_n dX12_contains_59 rfl (by decide) rfl ?_
      refine uu_iinc (v := x4 + 1) dX12_contains_60 (k := 4) rfl rfl (by decide) rfl ?_
      refine uu_goto (tgt := 26) dX12_contains_63 (by decide) ?_
      refine uu_lv [2, 3, 1, 4, 0] (lv' := [(0, .ref (B + 1079)), (1, .int (bI b1)), (2, .int (bI v7)), (3, .int x3), (4, .int (x4 + 1))]) rfl ?_
      exact hK26 b1 v7 x3 (x4 + 1) _ _ h
def fn_X12_contains_26 (K4 : Bool → Bool → Int32 → uS → Option Bool) : Nat → Bool → Bool → Int32 → Int32 → uS → Option Bool
  | 0 => fun _ _ _ _ _ => none
  | n + 1 => fb_X12_contains_26 K4 (fn_X12_contains_26 K4 n)
set_option maxRecDepth 100000 in
set_option maxHeartbeats 4000000 in
theorem xn_X12_contains_26 {l : Launch} {D : va_G} {A : Nat → ClassId} {B : Nat} {Z : State → Heap → Prop} {vF : Value} (uk : uK B Z vF) {K4 : Bool → Bool → Int32 → uS → Option Bool} (hK4 : ∀ (b1 : Bool) (b2 : Bool) (x3 : Int32)  (s : uS) (r : Bool), K4 b1 b2 x3 s = some r → GU l D A B Z mX12_contains 2 (s, some (.int (bI r))) s 4 [(0, .ref (B + 1079)), (1, .int (bI b1)), (2, .int (bI b2)), (3, .int x3)] []) : ∀ (n : Nat) (b1 : Bool) (b2 : Bool) (x3 : Int32) (x4 : Int32)  (s : uS) (r : Bool), fn_X12_contains_26 K4 n b1 b2 x3 x4 s = some r → GU l D A B Z mX12_contains 2 (s, some (.int (bI r))) s 26 [(0, .ref (B + 1079)), (1, .int (bI b1)), (2, .int (bI b2)), (3, .int x3), (4, .int x4)] [] := by
  intro n
  induction n with
  | zero => intro b1 b2 x3 x4 s r h
            cases h
  | succ n ih => intro b1 b2 x3 x4 s r h
                 exact xb_X12_contains_26 uk hK4 ih  h
def fb_X12_contains_4 (K4 : Bool → Bool → Int32 → uS → Option Bool) (b1 : Bool) (b2 : Bool) (x3 : Int32) (s : uS) : Option Bool := if (s.I 1079 21) < (x3 + (s.I 1079 23)) then (some b2) else (if b2 = true then (some b2) else (fn_X12_contains_26 K4 uFu b1 true x3 0 s))
set_option maxRecDepth 100000 in
set_option maxHeartbeats 4000000 in
theorem xb_X12_contains_4 {l : Launch} {D : va_G} {A : Nat → ClassId} {B : Nat} {Z : State → Heap → Prop} {vF : Value} (uk : uK B Z vF) {K4 : Bool → Bool → Int32 → uS → Option Bool} (hK4 : ∀ (b1 : Bool) (b2 : Bool) (x3 : Int32)  (s : uS) (r : Bool), K4 b1 b2 x3 s = some r → GU l D A B Z mX12_contains 2 (s, some (.int (bI r))) s 4 [(0, .ref (B + 1079)), (1, .int (bI b1)), (2, .int (bI b2)), (3, .int x3)] []) {b1 : Bool} {b2 : Bool} {x3 : Int32} {s : uS} {r : Bool}  (h : fb_X12_contains_4 K4 b1 b2 x3 s = some r) : GU l D A B Z mX12_contains 2 (s, some (.int (bI r))) s 4 [(0, .ref (B + 1079)), (1, .int (bI b1)), (2, .int (bI b2)), (3, .int x3)] [] := by
  unfold fb_X12_contains_4 at h
  refine uu_iload_n dX12_contains_4 rfl (List.mem_of_getElem? (i := 3) rfl) ?_
  refine uu_aload_n dX12_contains_5 rfl (List.mem_of_getElem? (i := 0) rfl) ?_
  refine uu_geti (ci := 12) (N := 153) fX12_113 (by decide) so_1079.is (by decide) (by decide) dX12_contains_6 ?_
  refine uu_iadd dX12_contains_9 ?_
  refine uu_aload_n dX12_contains_10 rfl (List.mem_of_getElem? (i := 0) rfl) ?_
  refine uu_geti (ci := 12) (N := 153) fX12_110 (by decide) so_1079.is (by decide) (by decide) dX12_contains_11 ?_
  refine uu_icmp_gt (tgt := 72) dX12_contains_14 (by decide) (fun c1 => ?_) (fun c1 => ?_)
  · replace h := uu_pos c1 h
    refine uu_iload_n dX12_contains_72 rfl (List.mem_of_getElem? (i := 2) rfl) ?_
    have hr := Option.some.inj h
    subst hr
    exact uu_zret (x := bI b2) rfl (bI_z _) dX12_contains_73
  · replace h := uu_neg c1 h
    refine uu_iload_n dX12_contains_17 rfl (List.mem_of_getElem? (i := 2) rfl) ?_
    refine uu_ifb_ne (tgt := 72) dX12_contains_18 (by decide) (fun c2 => ?_) (fun c2 => ?_)
    · replace h := uu_pos c2 h
      refine uu_iload_n dX12_contains_72 rfl (List.mem_of_getElem? (i := 2) rfl) ?_
      have hr := Option.some.inj h
      subst hr
      exact uu_zret (x := bI b2) rfl (bI_z _) dX12_contains_73
    · replace h := uu_neg c2 h
      refine uu_iconst (v := 1) dX12_contains_21 (by decide) ?_
      refine uu_istore_n dX12_contains_22 rfl (by decide) rfl ?_
      refine uu_iconst (v := 0) dX12_contains_23 (by decide) ?_
      refine uu_istore dX12_contains_24 (by decide) rfl ?_
      refine uu_lv [2, 3, 1, 4, 0] (lv' := [(0, .ref (B + 1079)), (1, .int (bI b1)), (2, .int 1), (3, .int x3), (4, .int 0)]) rfl ?_
      exact xn_X12_contains_26 uk hK4 _ _ _ _ _ _ _ h
def fn_X12_contains_4  : Nat → Bool → Bool → Int32 → uS → Option Bool
  | 0 => fun _ _ _ _ => none
  | n + 1 => fb_X12_contains_4 (fn_X12_contains_4  n)
set_option maxRecDepth 100000 in
set_option maxHeartbeats 4000000 in
theorem xn_X12_contains_4 {l : Launch} {D : va_G} {A : Nat → ClassId} {B : Nat} {Z : State → Heap → Prop} {vF : Value} (uk : uK B Z vF)   : ∀ (n : Nat) (b1 : Bool) (b2 : Bool) (x3 : Int32)  (s : uS) (r : Bool), fn_X12_contains_4  n b1 b2 x3 s = some r → GU l D A B Z mX12_contains 2 (s, some (.int (bI r))) s 4 [(0, .ref (B + 1079)), (1, .int (bI b1)), (2, .int (bI b2)), (3, .int x3)] [] := by
  intro n
  induction n with
  | zero => intro b1 b2 x3 s r h
            cases h
  | succ n ih => intro b1 b2 x3 s r h
                 exact xb_X12_contains_4 uk ih  h
def fn_X12_contains (b1 : Bool) (s : uS) : Option Bool := fn_X12_contains_4 uFu b1 false 0 s
set_option maxRecDepth 100000 in
set_option maxHeartbeats 4000000 in
theorem xc_X12_contains {l : Launch} {D : va_G} {A : Nat → ClassId} {B : Nat} {Z : State → Heap → Prop} {vF : Value} (uk : uK B Z vF) {b1 : Bool} {s : uS} {r : Bool}  (h : fn_X12_contains b1 s = some r) : CU l D A B Z 2 mX12_contains s [.ref (B + 1079), .int (bI b1)] (s, some (.int (bI r))) := by
  unfold fn_X12_contains at h
  refine cu_of rfl uk.1.1 (Nat.le_of_ble_eq_true rfl) ?_
  show GU _ _ _ _ _ _ _ _ _ 0 [(0, .ref (B + 1079)), (1, .int (bI b1))] []
  refine uu_iconst (v := 0) dX12_contains_0 (by decide) ?_
  refine uu_istore_n dX12_contains_1 rfl (by decide) rfl ?_
  refine uu_iconst (v := 0) dX12_contains_2 (by decide) ?_
  refine uu_istore_n dX12_contains_3 rfl (by decide) rfl ?_
  refine uu_lv [2, 3, 1, 0] (lv' := [(0, .ref (B + 1079)), (1, .int (bI b1)), (2, .int 0), (3, .int 0)]) rfl ?_
  exact xn_X12_contains_4 uk  _ _ _ _ _ _ h
abbrev mX12_spread : hM := (yX12_spread, cX12_spread, 3, none)
theorem dX12_spread_2 : decode cX12_spread 2 = .ok (.iload_n 2, 1) := by decide +kernel
theorem dX12_spread_3 : decode cX12_spread 3 = .ok (.aload_n 0, 1) := by decide +kernel
theorem dX12_spread_4 : decode cX12_spread 4 = .ok (.getfield 113, 3) := by decide +kernel
theorem dX12_spread_7 : decode cX12_spread 7 = .ok (.if_icmp .ge 32, 3) := by decide +kernel
theorem dX12_spread_39 : decode cX12_spread 39 = .ok (.return_, 1) := by decide +kernel
theorem dX12_spread_10 : decode cX12_spread 10 = .ok (.aload_n 1, 1) := by decide +kernel
theorem dX12_spread_11 : decode cX12_spread 11 = .ok (.iload_n 2, 1) := by decide +kernel
theorem dX12_spread_12 : decode cX12_spread 12 = .ok (.baload, 1) := by decide +kernel
theorem dX12_spread_13 : decode cX12_spread 13 = .ok (.ifCond .eq 20, 3) := by decide +kernel
theorem dX12_spread_33 : decode cX12_spread 33 = .ok (.iinc 2 1, 3) := by decide +kernel
theorem dX12_spread_36 : decode cX12_spread 36 = .ok (.goto (-34), 3) := by decide +kernel
theorem dX12_spread_16 : decode cX12_spread 16 = .ok (.aload_n 0, 1) := by decide +kernel
theorem dX12_spread_17 : decode cX12_spread 17 = .ok (.getfield 122, 3) := by decide +kernel
theorem dX12_spread_20 : decode cX12_spread 20 = .ok (.iload_n 2, 1) := by decide +kernel
theorem dX12_spread_21 : decode cX12_spread 21 = .ok (.iaload, 1) := by decide +kernel
theorem dX12_spread_22 : decode cX12_spread 22 = .ok (.bipush 42, 2) := by decide +kernel
theorem dX12_spread_24 : decode cX12_spread 24 = .ok (.if_icmp .ne 9, 3) := by decide +kernel
theorem dX12_spread_27 : decode cX12_spread 27 = .ok (.aload_n 1, 1) := by decide +kernel
theorem dX12_spread_28 : decode cX12_spread 28 = .ok (.iload_n 2, 1) := by decide +kernel
theorem dX12_spread_29 : decode cX12_spread 29 = .ok (.iconst 1, 1) := by decide +kernel
theorem dX12_spread_30 : decode cX12_spread 30 = .ok (.iadd, 1) := by decide +kernel
theorem dX12_spread_31 : decode cX12_spread 31 = .ok (.iconst 1, 1) := by decide +kernel
theorem dX12_spread_32 : decode cX12_spread 32 = .ok (.bastore, 1) := by decide +kernel
theorem dX12_spread_0 : decode cX12_spread 0 = .ok (.iconst 0, 1) := by decide +kernel
theorem dX12_spread_1 : decode cX12_spread 1 = .ok (.istore_n 2, 1) := by decide +kernel
def fb_X12_spread_2 (K2 : Nat → Int32 → uS → Option uS) (k1 : Nat) (x2 : Int32) (s : uS) : Option uS := if (s.I 1079 23) ≤ x2 then (some s) else ((iget 22 s k1 x2).bind fun v2 => if v2 = 0 then (K2 k1 (x2 + 1) s) else ((iget 20 s 1094 x2).bind fun v5 => if v5 = 42 then ((iput 22 s k1 (x2 + 1) 1).bind fun s8 => K2 k1 (x2 + 1) s8) else (K2 k1 (x2 + 1) s)))
set_option maxRecDepth 100000 in
set_option maxHeartbeats 4000000 in
theorem xb_X12_spread_2 {l : Launch} {D : va_G} {A : Nat → ClassId} {B : Nat} {Z : State → Heap → Prop} {vF : Value} (uk : uK B Z vF) {K2 : Nat → Int32 → uS → Option uS} (hK2 : ∀ (k1 : Nat) (x2 : Int32)  (s : uS) (r : uS), K2 k1 x2 s = some r → GU l D A B Z mX12_spread 0 (r, none) s 2 [(0, .ref (B + 1079)), (1, .ref (B + k1)), (2, .int x2)] []) {k1 : Nat} {x2 : Int32} {s : uS} {r : uS}  (h : fb_X12_spread_2 K2 k1 x2 s = some r) : GU l D A B Z mX12_spread 0 (r, none) s 2 [(0, .ref (B + 1079)), (1, .ref (B + k1)), (2, .int x2)] [] := by
  unfold fb_X12_spread_2 at h
  refine uu_iload_n dX12_spread_2 rfl (List.mem_of_getElem? (i := 2) rfl) ?_
  refine uu_aload_n dX12_spread_3 rfl (List.mem_of_getElem? (i := 0) rfl) ?_
  refine uu_geti (ci := 12) (N := 153) fX12_113 (by decide) so_1079.is (by decide) (by decide) dX12_spread_4 ?_
  refine uu_icmp_ge (tgt := 39) dX12_spread_7 (by decide) (fun c1 => ?_) (fun c1 => ?_)
  · replace h := uu_pos c1 h
    have hr := Option.some.inj h
    subst hr
    exact uu_vret rfl dX12_spread_39
  · replace h := uu_neg c1 h
    refine uu_aload_n dX12_spread_10 rfl (List.mem_of_getElem? (i := 1) rfl) ?_
    refine uu_iload_n dX12_spread_11 rfl (List.mem_of_getElem? (i := 2) rfl) ?_
    obtain ⟨v2, e3, h⟩ := uu_ob h
    refine uu_zald e3 dX12_spread_12 ?_
    refine uu_if_eq (tgt := 33) dX12_spread_13 (by decide) (fun c4 => ?_) (fun c4 => ?_)
    · replace h := uu_pos c4 h
      refine uu_iinc (v := x2 + 1) dX12_spread_33 (k := 2) rfl rfl (by decide) rfl ?_
      refine uu_goto (tgt := 2) dX12_spread_36 (by decide) ?_
      refine uu_lv [1, 2, 0] (lv' := [(0, .ref (B + 1079)), (1, .ref (B + k1)), (2, .int (x2 + 1))]) rfl ?_
      exact hK2 k1 (x2 + 1) _ _ h
    · replace h := uu_neg c4 h
      refine uu_aload_n dX12_spread_16 rfl (List.mem_of_getElem? (i := 0) rfl) ?_
      refine uu_geta (ci := 12) (N := 153) fX12_122 (by decide) so_1079.is (by decide) (c := 1094) (by decide) dX12_spread_17 ?_
      refine uu_iload_n dX12_spread_20 rfl (List.mem_of_getElem? (i := 2) rfl) ?_
      obtain ⟨v5, e6, h⟩ := uu_ob h
      refine uu_iald e6 dX12_spread_21 ?_
      refine uu_bipush (v := 42) dX12_spread_22 (by decide) ?_
      refine uu_icmp_ne (tgt := 33) dX12_spread_24 (by decide) (fun c7 => ?_) (fun c7 => ?_)
      · replace h := uu_neg c7 h
        refine uu_iinc (v := x2 + 1) dX12_spread_33 (k := 2) rfl rfl (by decide) rfl ?_
        refine uu_goto (tgt := 2) dX12_spread_36 (by decide) ?_
        refine uu_lv [1, 2, 0] (lv' := [(0, .ref (B + 1079)), (1, .ref (B + k1)), (2, .int (x2 + 1))]) rfl ?_
        exact hK2 k1 (x2 + 1) _ _ h
      · replace h := uu_pos c7 h
        refine uu_aload_n dX12_spread_27 rfl (List.mem_of_getElem? (i := 1) rfl) ?_
        refine uu_iload_n dX12_spread_28 rfl (List.mem_of_getElem? (i := 2) rfl) ?_
        refine uu_iconst (v := 1) dX12_spread_29 (by decide) ?_
        refine uu_iadd dX12_spread_30 ?_
        refine uu_iconst (v := 1) dX12_spread_31 (by decide) ?_
        obtain ⟨s8, e9, h⟩ := uu_ob h
        refine uu_zast e9 dX12_spread_32 ?_
        refine uu_iinc (v := x2 + 1) dX12_spread_33 (k := 2) rfl rfl (by decide) rfl ?_
        refine uu_goto (tgt := 2) dX12_spread_36 (by decide) ?_
        refine uu_lv [1, 2, 0] (lv' := [(0, .ref (B + 1079)), (1, .ref (B + k1)), (2, .int (x2 + 1))]) rfl ?_
        exact hK2 k1 (x2 + 1) _ _ h
def fn_X12_spread_2  : Nat → Nat → Int32 → uS → Option uS
  | 0 => fun _ _ _ => none
  | n + 1 => fb_X12_spread_2 (fn_X12_spread_2  n)
set_option maxRecDepth 100000 in
set_option maxHeartbeats 4000000 in
theorem xn_X12_spread_2 {l : Launch} {D : va_G} {A : Nat → ClassId} {B : Nat} {Z : State → Heap → Prop} {vF : Value} (uk : uK B Z vF)   : ∀ (n : Nat) (k1 : Nat) (x2 : Int32)  (s : uS) (r : uS), fn_X12_spread_2  n k1 x2 s = some r → GU l D A B Z mX12_spread 0 (r, none) s 2 [(0, .ref (B + 1079)), (1, .ref (B + k1)), (2, .int x2)] [] := by
  intro n
  induction n with
  | zero => intro k1 x2 s r h
            cases h
  | succ n ih => intro k1 x2 s r h
                 exact xb_X12_spread_2 uk ih  h
def fn_X12_spread (k1 : Nat) (s : uS) : Option uS := fn_X12_spread_2 uFu k1 0 s
set_option maxRecDepth 100000 in
set_option maxHeartbeats 4000000 in
theorem xc_X12_spread {l : Launch} {D : va_G} {A : Nat → ClassId} {B : Nat} {Z : State → Heap → Prop} {vF : Value} (uk : uK B Z vF) {k1 : Nat} {s : uS} {r : uS}  (h : fn_X12_spread k1 s = some r) : CU l D A B Z 0 mX12_spread s [.ref (B + 1079), .ref (B + k1)] (r, none) := by
  unfold fn_X12_spread at h
  refine cu_of rfl uk.1.1 (Nat.le_of_ble_eq_true rfl) ?_
  show GU _ _ _ _ _ _ _ _ _ 0 [(0, .ref (B + 1079)), (1, .ref (B + k1))] []
  refine uu_iconst (v := 0) dX12_spread_0 (by decide) ?_
  refine uu_istore_n dX12_spread_1 rfl (by decide) rfl ?_
  refine uu_lv [1, 2, 0] (lv' := [(0, .ref (B + 1079)), (1, .ref (B + k1)), (2, .int 0)]) rfl ?_
  exact xn_X12_spread_2 uk  _ _ _ _ _ h
abbrev mX12_escapes : hM := (yX12_escapes, cX12_escapes, 2, (some (.boolean)))
theorem dX12_escapes_0 : decode cX12_escapes 0 = .ok (.aload_n 0, 1) := by decide +kernel
theorem dX12_escapes_1 : decode cX12_escapes 1 = .ok (.getfield 122, 3) := by decide +kernel
theorem dX12_escapes_4 : decode cX12_escapes 4 = .ok (.iload_n 1, 1) := by decide +kernel
theorem dX12_escapes_5 : decode cX12_escapes 5 = .ok (.iaload, 1) := by decide +kernel
theorem dX12_escapes_6 : decode cX12_escapes 6 = .ok (.bipush 92, 2) := by decide +kernel
theorem dX12_escapes_8 : decode cX12_escapes 8 = .ok (.if_icmp .ne 17, 3) := by decide +kernel
theorem dX12_escapes_25 : decode cX12_escapes 25 = .ok (.iconst 0, 1) := by decide +kernel
theorem dX12_escapes_26 : decode cX12_escapes 26 = .ok (.ireturn, 1) := by decide +kernel
theorem dX12_escapes_11 : decode cX12_escapes 11 = .ok (.iload_n 1, 1) := by decide +kernel
theorem dX12_escapes_12 : decode cX12_escapes 12 = .ok (.iconst 1, 1) := by decide +kernel
theorem dX12_escapes_13 : decode cX12_escapes 13 = .ok (.iadd, 1) := by decide +kernel
theorem dX12_escapes_14 : decode cX12_escapes 14 = .ok (.aload_n 0, 1) := by decide +kernel
theorem dX12_escapes_15 : decode cX12_escapes 15 = .ok (.getfield 113, 3) := by decide +kernel
theorem dX12_escapes_18 : decode cX12_escapes 18 = .ok (.if_icmp .ge 7, 3) := by decide +kernel
theorem dX12_escapes_21 : decode cX12_escapes 21 = .ok (.iconst 1, 1) := by decide +kernel
theorem dX12_escapes_22 : decode cX12_escapes 22 = .ok (.goto 4, 3) := by decide +kernel
def fn_X12_escapes (x1 : Int32) (s : uS) : Option Bool := (iget 20 s 1094 x1).bind fun v1 => if v1 = 92 then (if (s.I 1079 23) ≤ (x1 + 1) then (some false) else (some true)) else (some false)
set_option maxRecDepth 100000 in
set_option maxHeartbeats 4000000 in
theorem xc_X12_escapes {l : Launch} {D : va_G} {A : Nat → ClassId} {B : Nat} {Z : State → Heap → Prop} {vF : Value} (uk : uK B Z vF) {x1 : Int32} {s : uS} {r : Bool}  (h : fn_X12_escapes x1 s = some r) : CU l D A B Z 0 mX12_escapes s [.ref (B + 1079), .int x1] (s, some (.int (bI r))) := by
  unfold fn_X12_escapes at h
  refine cu_of rfl uk.1.1 (Nat.le_of_ble_eq_true rfl) ?_
  show GU _ _ _ _ _ _ _ _ _ 0 [(0, .ref (B + 1079)), (1, .int x1)] []
  refine uu_aload_n dX12_escapes_0 rfl (List.mem_of_getElem? (i := 0) rfl) ?_
  refine uu_geta (ci := 12) (N := 153) fX12_122 (by decide) so_1079.is (by decide) (c := 1094) (by decide) dX12_escapes_1 ?_
  refine uu_iload_n dX12_escapes_4 rfl (List.mem_of_getElem? (i := 1) rfl) ?_
  obtain ⟨v1, e2, h⟩ := uu_ob h
  refine uu_iald e2 dX12_escapes_5 ?_
  refine uu_bipush (v := 92) dX12_escapes_6 (by decide) ?_
  refine uu_icmp_ne (tgt := 25) dX12_escapes_8 (by decide) (fun c3 => ?_) (fun c3 => ?_)
  · replace h := uu_neg c3 h
    refine uu_iconst (v := 0) dX12_escapes_25 (by decide) ?_
    have hr := Option.some.inj h
    subst hr
    exact uu_zret (x := bI false) rfl (bI_z _) dX12_escapes_26
  · replace h := uu_pos c3 h
    refine uu_iload_n dX12_escapes_11 rfl (List.mem_of_getElem? (i := 1) rfl) ?_
    refine uu_iconst (v := 1) dX12_escapes_12 (by decide) ?_
    refine uu_iadd dX12_escapes_13 ?_
    refine uu_aload_n dX12_escapes_14 rfl (List.mem_of_getElem? (i := 0) rfl) ?_
    refine uu_geti (ci := 12) (N := 153) fX12_113 (by decide) so_1079.is (by decide) (by decide) dX12_escapes_15 ?_
    refine uu_icmp_ge (tgt := 25) dX12_escapes_18 (by decide) (fun c4 => ?_) (fun c4 => ?_)
    · replace h := uu_pos c4 h
      refine uu_iconst (v := 0) dX12_escapes_25 (by decide) ?_
      have hr := Option.some.inj h
      subst hr
      exact uu_zret (x := bI false) rfl (bI_z _) dX12_escapes_26
    · replace h := uu_neg c4 h
      refine uu_iconst (v := 1) dX12_escapes_21 (by decide) ?_
      refine uu_goto (tgt := 26) dX12_escapes_22 (by decide) ?_
      have hr := Option.some.inj h
      subst hr
      exact uu_zret (x := bI true) rfl (bI_z _) dX12_escapes_26
abbrev mX12_pattern : hM := (yX12_pattern, cX12_pattern, 4, (some (.boolean)))
theorem dX12_pattern_215 : decode cX12_pattern 215 = .ok (.iload_n 3, 1) := by decide +kernel
theorem dX12_pattern_216 : decode cX12_pattern 216 = .ok (.aload_n 0, 1) := by decide +kernel
theorem dX12_pattern_217 : decode cX12_pattern 217 = .ok (.getfield 113, 3) := by decide +kernel
theorem dX12_pattern_220 : decode cX12_pattern 220 = .ok (.if_icmp .gt 21, 3) := by decide +kernel
theorem dX12_pattern_241 : decode cX12_pattern 241 = .ok (.aload_n 0, 1) := by decide +kernel
theorem dX12_pattern_242 : decode cX12_pattern 242 = .ok (.aload_n 0, 1) := by decide +kernel
theorem dX12_pattern_243 : decode cX12_pattern 243 = .ok (.getfield 614, 3) := by decide +kernel
theorem kX12_spread : h_ml mX12_spread 1 := ⟨h_t9 144 rfl rfl, h_t1 16 rfl rfl, ⟨by decide, by decide, by decide +kernel⟩, by decide⟩
theorem lX12_617 : Cond.methodLink RX12 617 mX12_spread.1 ∈ lw_g := h_t9 141 rfl rfl
theorem sX12_spread : Cond.instanceMethod mX12_spread.1 ∈ lw_g ∧ Cond.selects mX12_spread.1.cls mX12_spread.1 mX12_spread.1 ∈ lw_g := ⟨h_t9 143 rfl rfl, h_ins 178 rfl⟩
theorem dX12_pattern_246 : decode cX12_pattern 246 = .ok (.invokevirtual 617, 3) := by decide +kernel
theorem dX12_pattern_249 : decode cX12_pattern 249 = .ok (.iinc 2 1, 3) := by decide +kernel
theorem dX12_pattern_252 : decode cX12_pattern 252 = .ok (.goto (-211), 3) := by decide +kernel
theorem dX12_pattern_223 : decode cX12_pattern 223 = .ok (.aload_n 0, 1) := by decide +kernel
theorem dX12_pattern_224 : decode cX12_pattern 224 = .ok (.getfield 614, 3) := by decide +kernel
theorem dX12_pattern_227 : decode cX12_pattern 227 = .ok (.iload_n 3, 1) := by decide +kernel
theorem dX12_pattern_228 : decode cX12_pattern 228 = .ok (.aload_n 0, 1) := by decide +kernel
theorem dX12_pattern_229 : decode cX12_pattern 229 = .ok (.getfield 621, 3) := by decide +kernel
theorem dX12_pattern_232 : decode cX12_pattern 232 = .ok (.iload_n 3, 1) := by decide +kernel
theorem dX12_pattern_233 : decode cX12_pattern 233 = .ok (.baload, 1) := by decide +kernel
theorem dX12_pattern_234 : decode cX12_pattern 234 = .ok (.bastore, 1) := by decide +kernel
theorem dX12_pattern_235 : decode cX12_pattern 235 = .ok (.iinc 3 1, 3) := by decide +kernel
theorem dX12_pattern_238 : decode cX12_pattern 238 = .ok (.goto (-23), 3) := by decide +kernel
theorem dX12_pattern_74 : decode cX12_pattern 74 = .ok (.iload_n 3, 1) := by decide +kernel
theorem dX12_pattern_75 : decode cX12_pattern 75 = .ok (.aload_n 0, 1) := by decide +kernel
theorem dX12_pattern_76 : decode cX12_pattern 76 = .ok (.getfield 113, 3) := by decide +kernel
theorem dX12_pattern_79 : decode cX12_pattern 79 = .ok (.if_icmp .ge 134, 3) := by decide +kernel
theorem dX12_pattern_213 : decode cX12_pattern 213 = .ok (.iconst 0, 1) := by decide +kernel
theorem dX12_pattern_214 : decode cX12_pattern 214 = .ok (.istore_n 3, 1) := by decide +kernel
theorem dX12_pattern_82 : decode cX12_pattern 82 = .ok (.aload_n 0, 1) := by decide +kernel
theorem dX12_pattern_83 : decode cX12_pattern 83 = .ok (.getfield 614, 3) := by decide +kernel
theorem dX12_pattern_86 : decode cX12_pattern 86 = .ok (.iload_n 3, 1) := by decide +kernel
theorem dX12_pattern_87 : decode cX12_pattern 87 = .ok (.baload, 1) := by decide +kernel
theorem dX12_pattern_88 : decode cX12_pattern 88 = .ok (.ifCond .ne 6, 3) := by decide +kernel
theorem dX12_pattern_94 : decode cX12_pattern 94 = .ok (.aload_n 0, 1) := by decide +kernel
theorem dX12_pattern_95 : decode cX12_pattern 95 = .ok (.getfield 122, 3) := by decide +kernel
theorem dX12_pattern_98 : decode cX12_pattern 98 = .ok (.iload_n 3, 1) := by decide +kernel
theorem dX12_pattern_99 : decode cX12_pattern 99 = .ok (.iaload, 1) := by decide +kernel
theorem dX12_pattern_100 : decode cX12_pattern 100 = .ok (.bipush 42, 2) := by decide +kernel
theorem dX12_pattern_102 : decode cX12_pattern 102 = .ok (.if_icmp .ne 13, 3) := by decide +kernel
theorem dX12_pattern_115 : decode cX12_pattern 115 = .ok (.aload_n 0, 1) := by decide +kernel
theorem dX12_pattern_116 : decode cX12_pattern 116 = .ok (.getfield 122, 3) := by decide +kernel
theorem dX12_pattern_119 : decode cX12_pattern 119 = .ok (.iload_n 3, 1) := by decide +kernel
theorem dX12_pattern_120 : decode cX12_pattern 120 = .ok (.iaload, 1) := by decide +kernel
theorem dX12_pattern_121 : decode cX12_pattern 121 = .ok (.bipush 63, 2) := by decide +kernel
theorem dX12_pattern_123 : decode cX12_pattern 123 = .ok (.if_icmp .ne 15, 3) := by decide +kernel
theorem dX12_pattern_138 : decode cX12_pattern 138 = .ok (.aload_n 0, 1) := by decide +kernel
theorem dX12_pattern_139 : decode cX12_pattern 139 = .ok (.iload_n 3, 1) := by decide +kernel
theorem kX12_escapes : h_ml mX12_escapes 1 := ⟨h_t9 148 rfl rfl, h_t1 16 rfl rfl, ⟨by decide, by decide, by decide +kernel⟩, by decide⟩
theorem lX12_624 : Cond.methodLink RX12 624 mX12_escapes.1 ∈ lw_g := h_t9 145 rfl rfl
theorem sX12_escapes : Cond.instanceMethod mX12_escapes.1 ∈ lw_g ∧ Cond.selects mX12_escapes.1.cls mX12_escapes.1 mX12_escapes.1 ∈ lw_g := ⟨h_t9 147 rfl rfl, h_ins 179 rfl⟩
theorem dX12_pattern_140 : decode cX12_pattern 140 = .ok (.invokevirtual 624, 3) := by decide +kernel
theorem dX12_pattern_143 : decode cX12_pattern 143 = .ok (.ifCond .eq 36, 3) := by decide +kernel
theorem dX12_pattern_179 : decode cX12_pattern 179 = .ok (.aload_n 0, 1) := by decide +kernel
theorem dX12_pattern_180 : decode cX12_pattern 180 = .ok (.getfield 116, 3) := by decide +kernel
theorem dX12_pattern_183 : decode cX12_pattern 183 = .ok (.iload_n 2, 1) := by decide +kernel
theorem dX12_pattern_184 : decode cX12_pattern 184 = .ok (.iaload, 1) := by decide +kernel
theorem dX12_pattern_185 : decode cX12_pattern 185 = .ok (.aload_n 0, 1) := by decide +kernel
theorem dX12_pattern_186 : decode cX12_pattern 186 = .ok (.getfield 122, 3) := by decide +kernel
theorem dX12_pattern_189 : decode cX12_pattern 189 = .ok (.iload_n 3, 1) := by decide +kernel
theorem dX12_pattern_190 : decode cX12_pattern 190 = .ok (.iaload, 1) := by decide +kernel
theorem dX12_pattern_191 : decode cX12_pattern 191 = .ok (.iload_n 1, 1) := by decide +kernel
theorem dX12_pattern_192 : decode cX12_pattern 192 = .ok (.invokestatic 610, 3) := by decide +kernel
theorem dX12_pattern_195 : decode cX12_pattern 195 = .ok (.ifCond .eq 12, 3) := by decide +kernel
theorem dX12_pattern_207 : decode cX12_pattern 207 = .ok (.iinc 3 1, 3) := by decide +kernel
theorem dX12_pattern_210 : decode cX12_pattern 210 = .ok (.goto (-136), 3) := by decide +kernel
theorem dX12_pattern_198 : decode cX12_pattern 198 = .ok (.aload_n 0, 1) := by decide +kernel
theorem dX12_pattern_199 : decode cX12_pattern 199 = .ok (.getfield 621, 3) := by decide +kernel
theorem dX12_pattern_202 : decode cX12_pattern 202 = .ok (.iload_n 3, 1) := by decide +kernel
theorem dX12_pattern_203 : decode cX12_pattern 203 = .ok (.iconst 1, 1) := by decide +kernel
theorem dX12_pattern_204 : decode cX12_pattern 204 = .ok (.iadd, 1) := by decide +kernel
theorem dX12_pattern_205 : decode cX12_pattern 205 = .ok (.iconst 1, 1) := by decide +kernel
theorem dX12_pattern_206 : decode cX12_pattern 206 = .ok (.bastore, 1) := by decide +kernel
theorem dX12_pattern_146 : decode cX12_pattern 146 = .ok (.aload_n 0, 1) := by decide +kernel
theorem dX12_pattern_147 : decode cX12_pattern 147 = .ok (.getfield 116, 3) := by decide +kernel
theorem dX12_pattern_150 : decode cX12_pattern 150 = .ok (.iload_n 2, 1) := by decide +kernel
theorem dX12_pattern_151 : decode cX12_pattern 151 = .ok (.iaload, 1) := by decide +kernel
theorem dX12_pattern_152 : decode cX12_pattern 152 = .ok (.aload_n 0, 1) := by decide +kernel
theorem dX12_pattern_153 : decode cX12_pattern 153 = .ok (.getfield 122, 3) := by decide +kernel
theorem dX12_pattern_156 : decode cX12_pattern 156 = .ok (.iload_n 3, 1) := by decide +kernel
theorem dX12_pattern_157 : decode cX12_pattern 157 = .ok (.iconst 1, 1) := by decide +kernel
theorem dX12_pattern_158 : decode cX12_pattern 158 = .ok (.iadd, 1) := by decide +kernel
theorem dX12_pattern_159 : decode cX12_pattern 159 = .ok (.iaload, 1) := by decide +kernel
theorem dX12_pattern_160 : decode cX12_pattern 160 = .ok (.iload_n 1, 1) := by decide +kernel
theorem dX12_pattern_161 : decode cX12_pattern 161 = .ok (.invokestatic 610, 3) := by decide +kernel
theorem dX12_pattern_164 : decode cX12_pattern 164 = .ok (.ifCond .eq 43, 3) := by decide +kernel
theorem dX12_pattern_167 : decode cX12_pattern 167 = .ok (.aload_n 0, 1) := by decide +kernel
theorem dX12_pattern_168 : decode cX12_pattern 168 = .ok (.getfield 621, 3) := by decide +kernel
theorem dX12_pattern_171 : decode cX12_pattern 171 = .ok (.iload_n 3, 1) := by decide +kernel
theorem dX12_pattern_172 : decode cX12_pattern 172 = .ok (.iconst 2, 1) := by decide +kernel
theorem dX12_pattern_173 : decode cX12_pattern 173 = .ok (.iadd, 1) := by decide +kernel
theorem dX12_pattern_174 : decode cX12_pattern 174 = .ok (.iconst 1, 1) := by decide +kernel
theorem dX12_pattern_175 : decode cX12_pattern 175 = .ok (.bastore, 1) := by decide +kernel
theorem dX12_pattern_176 : decode cX12_pattern 176 = .ok (.goto 31, 3) := by decide +kernel
theorem dX12_pattern_126 : decode cX12_pattern 126 = .ok (.aload_n 0, 1) := by decide +kernel
theorem dX12_pattern_127 : decode cX12_pattern 127 = .ok (.getfield 621, 3) := by decide +kernel
theorem dX12_pattern_130 : decode cX12_pattern 130 = .ok (.iload_n 3, 1) := by decide +kernel
theorem dX12_pattern_131 : decode cX12_pattern 131 = .ok (.iconst 1, 1) := by decide +kernel
theorem dX12_pattern_132 : decode cX12_pattern 132 = .ok (.iadd, 1) := by decide +kernel
theorem dX12_pattern_133 : decode cX12_pattern 133 = .ok (.iconst 1, 1) := by decide +kernel
theorem dX12_pattern_134 : decode cX12_pattern 134 = .ok (.bastore, 1) := by decide +kernel
theorem dX12_pattern_135 : decode cX12_pattern 135 = .ok (.goto 72, 3) := by decide +kernel
theorem dX12_pattern_105 : decode cX12_pattern 105 = .ok (.aload_n 0, 1) := by decide +kernel
theorem dX12_pattern_106 : decode cX12_pattern 106 = .ok (.getfield 621, 3) := by decide +kernel
theorem dX12_pattern_109 : decode cX12_pattern 109 = .ok (.iload_n 3, 1) := by decide +kernel
theorem dX12_pattern_110 : decode cX12_pattern 110 = .ok (.iconst 1, 1) := by decide +kernel
theorem dX12_pattern_111 : decode cX12_pattern 111 = .ok (.bastore, 1) := by decide +kernel
theorem dX12_pattern_112 : decode cX12_pattern 112 = .ok (.goto 95, 3) := by decide +kernel
theorem dX12_pattern_91 : decode cX12_pattern 91 = .ok (.goto 116, 3) := by decide +kernel
theorem dX12_pattern_51 : decode cX12_pattern 51 = .ok (.iload_n 3, 1) := by decide +kernel
theorem dX12_pattern_52 : decode cX12_pattern 52 = .ok (.aload_n 0, 1) := by decide +kernel
theorem dX12_pattern_53 : decode cX12_pattern 53 = .ok (.getfield 113, 3) := by decide +kernel
theorem dX12_pattern_56 : decode cX12_pattern 56 = .ok (.if_icmp .gt 16, 3) := by decide +kernel
theorem dX12_pattern_72 : decode cX12_pattern 72 = .ok (.iconst 0, 1) := by decide +kernel
theorem dX12_pattern_73 : decode cX12_pattern 73 = .ok (.istore_n 3, 1) := by decide +kernel
theorem dX12_pattern_59 : decode cX12_pattern 59 = .ok (.aload_n 0, 1) := by decide +kernel
theorem dX12_pattern_60 : decode cX12_pattern 60 = .ok (.getfield 621, 3) := by decide +kernel
theorem dX12_pattern_63 : decode cX12_pattern 63 = .ok (.iload_n 3, 1) := by decide +kernel
theorem dX12_pattern_64 : decode cX12_pattern 64 = .ok (.iconst 0, 1) := by decide +kernel
theorem dX12_pattern_65 : decode cX12_pattern 65 = .ok (.bastore, 1) := by decide +kernel
theorem dX12_pattern_66 : decode cX12_pattern 66 = .ok (.iinc 3 1, 3) := by decide +kernel
theorem dX12_pattern_69 : decode cX12_pattern 69 = .ok (.goto (-18), 3) := by decide +kernel
theorem dX12_pattern_41 : decode cX12_pattern 41 = .ok (.iload_n 2, 1) := by decide +kernel
theorem dX12_pattern_42 : decode cX12_pattern 42 = .ok (.aload_n 0, 1) := by decide +kernel
theorem dX12_pattern_43 : decode cX12_pattern 43 = .ok (.getfield 110, 3) := by decide +kernel
theorem dX12_pattern_46 : decode cX12_pattern 46 = .ok (.if_icmp .ge 209, 3) := by decide +kernel
theorem dX12_pattern_255 : decode cX12_pattern 255 = .ok (.aload_n 0, 1) := by decide +kernel
theorem dX12_pattern_256 : decode cX12_pattern 256 = .ok (.getfield 614, 3) := by decide +kernel
theorem dX12_pattern_259 : decode cX12_pattern 259 = .ok (.aload_n 0, 1) := by decide +kernel
theorem dX12_pattern_260 : decode cX12_pattern 260 = .ok (.getfield 113, 3) := by decide +kernel
theorem dX12_pattern_263 : decode cX12_pattern 263 = .ok (.baload, 1) := by decide +kernel
theorem dX12_pattern_264 : decode cX12_pattern 264 = .ok (.ireturn, 1) := by decide +kernel
theorem dX12_pattern_49 : decode cX12_pattern 49 = .ok (.iconst 0, 1) := by decide +kernel
theorem dX12_pattern_50 : decode cX12_pattern 50 = .ok (.istore_n 3, 1) := by decide +kernel
theorem dX12_pattern_2 : decode cX12_pattern 2 = .ok (.iload_n 2, 1) := by decide +kernel
theorem dX12_pattern_3 : decode cX12_pattern 3 = .ok (.aload_n 0, 1) := by decide +kernel
theorem dX12_pattern_4 : decode cX12_pattern 4 = .ok (.getfield 113, 3) := by decide +kernel
theorem dX12_pattern_7 : decode cX12_pattern 7 = .ok (.if_icmp .gt 24, 3) := by decide +kernel
theorem dX12_pattern_31 : decode cX12_pattern 31 = .ok (.aload_n 0, 1) := by decide +kernel
theorem dX12_pattern_32 : decode cX12_pattern 32 = .ok (.aload_n 0, 1) := by decide +kernel
theorem dX12_pattern_33 : decode cX12_pattern 33 = .ok (.getfield 614, 3) := by decide +kernel
theorem dX12_pattern_36 : decode cX12_pattern 36 = .ok (.invokevirtual 617, 3) := by decide +kernel
theorem dX12_pattern_39 : decode cX12_pattern 39 = .ok (.iconst 0, 1) := by decide +kernel
theorem dX12_pattern_40 : decode cX12_pattern 40 = .ok (.istore_n 2, 1) := by decide +kernel
theorem dX12_pattern_10 : decode cX12_pattern 10 = .ok (.aload_n 0, 1) := by decide +kernel
theorem dX12_pattern_11 : decode cX12_pattern 11 = .ok (.getfield 614, 3) := by decide +kernel
theorem dX12_pattern_14 : decode cX12_pattern 14 = .ok (.iload_n 2, 1) := by decide +kernel
theorem dX12_pattern_15 : decode cX12_pattern 15 = .ok (.iload_n 2, 1) := by decide +kernel
theorem dX12_pattern_16 : decode cX12_pattern 16 = .ok (.ifCond .ne 7, 3) := by decide +kernel
theorem dX12_pattern_23 : decode cX12_pattern 23 = .ok (.iconst 0, 1) := by decide +kernel
theorem dX12_pattern_24 : decode cX12_pattern 24 = .ok (.bastore, 1) := by decide +kernel
theorem dX12_pattern_25 : decode cX12_pattern 25 = .ok (.iinc 2 1, 3) := by decide +kernel
theorem dX12_pattern_28 : decode cX12_pattern 28 = .ok (.goto (-26), 3) := by decide +kernel
theorem dX12_pattern_19 : decode cX12_pattern 19 = .ok (.iconst 1, 1) := by decide +kernel
theorem dX12_pattern_20 : decode cX12_pattern 20 = .ok (.goto 4, 3) := by decide +kernel
theorem dX12_pattern_0 : decode cX12_pattern 0 = .ok (.iconst 0, 1) := by decide +kernel
theorem dX12_pattern_1 : decode cX12_pattern 1 = .ok (.istore_n 2, 1) := by decide +kernel
def fb_X12_pattern_215 (K41 : Bool → Int32 → uS → Option (uS × Bool)) (K215 : Bool → Int32 → Int32 → uS → Option (uS × Bool)) (b1 : Bool) (x2 : Int32) (x3 : Int32) (s : uS) : Option (uS × Bool) := if (s.I 1079 23) < x3 then ((fn_X12_spread 1141 s).bind fun s2 => K41 b1 (x2 + 1) s2) else ((iget 22 s 1142 x3).bind fun v4 => (iput 22 s 1141 x3 v4).bind fun s6 => K215 b1 x2 (x3 + 1) s6)
set_option maxRecDepth 100000 in
set_option maxHeartbeats 4000000 in
theorem xb_X12_pattern_215 {l : Launch} {D : va_G} {A : Nat → ClassId} {B : Nat} {Z : State → Heap → Prop} {vF : Value} (uk : uK B Z vF) {K41 : Bool → Int32 → uS → Option (uS × Bool)} {K215 : Bool → Int32 → Int32 → uS → Option (uS × Bool)} (hK41 : ∀ (b1 : Bool) (x2 : Int32)  (s : uS) (r : (uS × Bool)), K41 b1 x2 s = some r → GU l D A B Z mX12_pattern 2 (r.1, some (.int (bI r.2))) s 41 [(0, .ref (B + 1079)), (1, .int (bI b1)), (2, .int x2)] []) (hK215 : ∀ (b1 : Bool) (x2 : Int32) (x3 : Int32)  (s : uS) (r : (uS × Bool)), K215 b1 x2 x3 s = some r → GU l D A B Z mX12_pattern 2 (r.1, some (.int (bI r.2))) s 215 [(0, .ref (B + 1079)), (1, .int (bI b1)), (2, .int x2), (3, .int x3)] []) {b1 : Bool} {x2 : Int32} {x3 : Int32} {s : uS} {r : (uS × Bool)}  (h : fb_X12_pattern_215 K41 K215 b1 x2 x3 s = some r) : GU l D A B Z mX12_pattern 2 (r.1, some (.int (bI r.2))) s 215 [(0, .ref (B + 1079)), (1, .int (bI b1)), (2, .int x2), (3, .int x3)] [] := by
  unfold fb_X12_pattern_215 at h
  refine uu_iload_n dX12_pattern_215 rfl (List.mem_of_getElem? (i := 3) rfl) ?_
  refine uu_aload_n dX12_pattern_216 rfl (List.mem_of_getElem? (i := 0) rfl) ?_
  refine uu_geti (ci := 12) (N := 153) fX12_113 (by decide) so_1079.is (by decide) (by decide) dX12_pattern_217 ?_
  refine uu_icmp_gt (tgt := 241) dX12_pattern_220 (by decide) (fun c1 => ?_) (fun c1 => ?_)
  · replace h := uu_pos c1 h
    refine uu_aload_n dX12_pattern_241 rfl (List.mem_of_getElem? (i := 0) rfl) ?_
    refine uu_aload_n dX12_pattern_242 rfl (List.mem_of_getElem? (i := 0) rfl) ?_
    refine uu_geta (ci := 12) (N := 153) fX12_614 (by decide) so_1079.is (by decide) (c := 1141) (by decide) dX12_pattern_243 ?_
    obtain ⟨s2, e3, h⟩ := uu_ob h
    refine uu_cv (d1 := 0) (k := 1079) (ci := 12) (T := TX12) (N := 153) (As := [.ref (B + 1141)]) (st := []) (st' := []) (xc_X12_spread uk  e3) so_1079.is (by decide) rfl kX12_spread lX12_617 sX12_spread (by decide) (Nat.le_of_ble_eq_true rfl) dX12_pattern_246 rfl ?_
    refine uu_iinc (v := x2 + 1) dX12_pattern_249 (k := 2) rfl rfl (by decide) rfl ?_
    refine uu_goto (tgt := 41) dX12_pattern_252 (by decide) ?_
    refine uu_lv [1, 2, 0] (lv' := [(0, .ref (B + 1079)), (1, .int (bI b1)), (2, .int (x2 + 1))]) rfl ?_
    exact hK41 b1 (x2 + 1) _ _ h
  · replace h := uu_neg c1 h
    refine uu_aload_n dX12_pattern_223 rfl (List.mem_of_getElem? (i := 0) rfl) ?_
    refine uu_geta (ci := 12) (N := 153) fX12_614 (by decide) so_1079.is (by decide) (c := 1141) (by decide) dX12_pattern_224 ?_
    refine uu_iload_n dX12_pattern_227 rfl (List.mem_of_getElem? (i := 3) rfl) ?_
    refine uu_aload_n dX12_pattern_228 rfl (List.mem_of_getElem? (i := 0) rfl) ?_
    refine uu_geta (ci := 12) (N := 153) fX12_621 (by decide) so_1079.is (by decide) (c := 1142) (by decide) dX12_pattern_229 ?_
    refine uu_iload_n dX12_pattern_232 rfl (List.mem_of_getElem? (i := 3) rfl) ?_
    obtain ⟨v4, e5, h⟩ := uu_ob h
    refine uu_zald e5 dX12_pattern_233 ?_
    obtain ⟨s6, e7, h⟩ := uu_ob h
    refine uu_zast e7 dX12_pattern_234 ?_
    refine uu_iinc (v := x3 + 1) dX12_pattern_235 (k := 3) rfl rfl (by decide) rfl ?_
    refine uu_goto (tgt := 215) dX12_pattern_238 (by decide) ?_
    refine uu_lv [1, 2, 3, 0] (lv' := [(0, .ref (B + 1079)), (1, .int (bI b1)), (2, .int x2), (3, .int (x3 + 1))]) rfl ?_
    exact hK215 b1 x2 (x3 + 1) _ _ h
def fn_X12_pattern_215 (K41 : Bool → Int32 → uS → Option (uS × Bool)) : Nat → Bool → Int32 → Int32 → uS → Option (uS × Bool)
  | 0 => fun _ _ _ _ => none
  | n + 1 => fb_X12_pattern_215 K41 (fn_X12_pattern_215 K41 n)
set_option maxRecDepth 100000 in
set_option maxHeartbeats 4000000 in
theorem xn_X12_pattern_215 {l : Launch} {D : va_G} {A : Nat → ClassId} {B : Nat} {Z : State → Heap → Prop} {vF : Value} (uk : uK B Z vF) {K41 : Bool → Int32 → uS → Option (uS × Bool)} (hK41 : ∀ (b1 : Bool) (x2 : Int32)  (s : uS) (r : (uS × Bool)), K41 b1 x2 s = some r → GU l D A B Z mX12_pattern 2 (r.1, some (.int (bI r.2))) s 41 [(0, .ref (B + 1079)), (1, .int (bI b1)), (2, .int x2)] []) : ∀ (n : Nat) (b1 : Bool) (x2 : Int32) (x3 : Int32)  (s : uS) (r : (uS × Bool)), fn_X12_pattern_215 K41 n b1 x2 x3 s = some r → GU l D A B Z mX12_pattern 2 (r.1, some (.int (bI r.2))) s 215 [(0, .ref (B + 1079)), (1, .int (bI b1)), (2, .int x2), (3, .int x3)] [] := by
  intro n
  induction n with
  | zero => intro b1 x2 x3 s r h
            cases h
  | succ n ih => intro b1 x2 x3 s r h
                 exact xb_X12_pattern_215 uk hK41 ih  h
def fb_X12_pattern_74 (K41 : Bool → Int32 → uS → Option (uS × Bool)) (K74 : Bool → Int32 → Int32 → uS → Option (uS × Bool)) (b1 : Bool) (x2 : Int32) (x3 : Int32) (s : uS) : Option (uS × Bool) := if (s.I 1079 23) ≤ x3 then (fn_X12_pattern_215 K41 uFu b1 x2 0 s) else ((iget 22 s 1141 x3).bind fun v2 => if v2 = 0 then (K74 b1 x2 (x3 + 1) s) else ((iget 20 s 1094 x3).bind fun v5 => if v5 = 42 then ((iput 22 s 1142 x3 1).bind fun s34 => K74 b1 x2 (x3 + 1) s34) else ((iget 20 s 1094 x3).bind fun v8 => if v8 = 63 then ((iput 22 s 1142 (x3 + 1) 1).bind fun s32 => K74 b1 x2 (x3 + 1) s32) else ((fn_X12_escapes x3 s).bind fun v11 => if v11 = true then ((iget 20 s 1093 x2).bind fun v23 => (iget 20 s 1094 (x3 + 1)).bind fun v25 => (fn_X12_same v23 v25 b1 s).bind fun v27 => if v27 = true then ((iput 22 s 1142 (x3 + 2) 1).bind fun s30 => K74 b1 x2 (x3 + 1) s30) else (K74 b1 x2 (x3 + 1) s)) else ((iget 20 s 1093 x2).bind fun v14 => (iget 20 s 1094 x3).bind fun v16 => (fn_X12_same v14 v16 b1 s).bind fun v18 => if v18 = true then ((iput 22 s 1142 (x3 + 1) 1).bind fun s21 => K74 b1 x2 (x3 + 1) s21) else (K74 b1 x2 (x3 + 1) s))))))
set_option maxRecDepth 100000 in
set_option maxHeartbeats 4000000 in
theorem xb_X12_pattern_74 {l : Launch} {D : va_G} {A : Nat → ClassId} {B : Nat} {Z : State → Heap → Prop} {vF : Value} (uk : uK B Z vF) {K41 : Bool → Int32 → uS → Option (uS × Bool)} {K74 : Bool → Int32 → Int32 → uS → Option (uS × Bool)} (hK41 : ∀ (b1 : Bool) (x2 : Int32)  (s : uS) (r : (uS × Bool)), K41 b1 x2 s = some r → GU l D A B Z mX12_pattern 2 (r.1, some (.int (bI r.2))) s 41 [(0, .ref (B + 1079)), (1, .int (bI b1)), (2, .int x2)] []) (hK74 : ∀ (b1 : Bool) (x2 : Int32) (x3 : Int32)  (s : uS) (r : (uS × Bool)), K74 b1 x2 x3 s = some r → GU l D A B Z mX12_pattern 2 (r.1, some (.int (bI r.2))) s 74 [(0, .ref (B + 1079)), (1, .int (bI b1)), (2, .int x2), (3, .int x3)] []) {b1 : Bool} {x2 : Int32} {x3 : Int32} {s : uS} {r : (uS × Bool)}  (h : fb_X12_pattern_74 K41 K74 b1 x2 x3 s = some r) : GU l D A B Z mX12_pattern 2 (r.1, some (.int (bI r.2))) s 74 [(0, .ref (B + 1079)), (1, .int (bI b1)), (2, .int x2), (3, .int x3)] [] := by
  unfold fb_X12_pattern_74 at h
  refine uu_iload_n dX12_pattern_74 rfl (List.mem_of_getElem? (i := 3) rfl) ?_
  refine uu_aload_n dX12_pattern_75 rfl (List.mem_of_getElem? (i := 0) rfl) ?_
  refine uu_geti (ci := 12) (N := 153) fX12_113 (by decide) so_1079.is (by decide) (by decide) dX12_pattern_76 ?_
  refine uu_icmp_ge (tgt := 213) dX12_pattern_79 (by decide) (fun c1 => ?_) (fun c1 => ?_)
  · replace h := uu_pos c1 h
    refine uu_iconst (v := 0) dX12_pattern_213 (by decide) ?_
    refine uu_istore_n dX12_pattern_214 rfl (by decide) rfl ?_
    refine uu_lv [1, 2, 3, 0] (lv' := [(0, .ref (B + 1079)), (1, .int (bI b1)), (2, .int x2), (3, .int 0)]) rfl ?_
    exact xn_X12_pattern_215 uk hK41 _ _ _ _ _ _ h
  · replace h := uu_neg c1 h
    refine uu_aload_n dX12_pattern_82 rfl (List.mem_of_getElem? (i := 0) rfl) ?_
    refine uu_geta (ci := 12) (N := 153) fX12_614 (by decide) so_1079.is (by decide) (c := 1141) (by decide) dX12_pattern_83 ?_
    refine uu_iload_n dX12_pattern_86 rfl (List.mem_of_getElem? (i := 3) rfl) ?_
    obtain ⟨v2, e3, h⟩ := uu_ob h
    refine uu_zald e3 dX12_pattern_87 ?_
    refine uu_if_ne (tgt := 94) dX12_pattern_88 (by decide) (fun c4 => ?_) (fun c4 => ?_)
    · replace h := uu_neg c4 h
      refine uu_aload_n dX12_pattern_94 rfl (List.mem_of_getElem? (i := 0) rfl) ?_
      refine uu_geta (ci := 12) (N := 153) fX12_122 (by decide) so_1079.is (by decide) (c := 1094) (by decide) dX12_pattern_95 ?_
      refine uu_iload_n dX12_pattern_98 rfl (List.mem_of_getElem? (i := 3) rfl) ?_
      obtain ⟨v5, e6, h⟩ := uu_ob h
      refine uu_iald e6 dX12_pattern_99 ?_
      refine uu_bipush (v := 42) dX12_pattern_100 (by decide) ?_
      refine uu_icmp_ne (tgt := 115) dX12_pattern_102 (by decide) (fun c7 => ?_) (fun c7 => ?_)
      · replace h := uu_neg c7 h
        refine uu_aload_n dX12_pattern_115 rfl (List.mem_of_getElem? (i := 0) rfl) ?_
        refine uu_geta (ci := 12) (N := 153) fX12_122 (by decide) so_1079.is (by decide) (c := 1094) (by decide) dX12_pattern_116 ?_
        refine uu_iload_n dX12_pattern_119 rfl (List.mem_of_getElem? (i := 3) rfl) ?_
        obtain ⟨v8, e9, h⟩ := uu_ob h
        refine uu_iald e9 dX12_pattern_120 ?_
        refine uu_bipush (v := 63) dX12_pattern_121 (by decide) ?_
        refine uu_icmp_ne (tgt := 138) dX12_pattern_123 (by decide) (fun c10 => ?_) (fun c10 => ?_)
        · replace h := uu_neg c10 h
          refine uu_aload_n dX12_pattern_138 rfl (List.mem_of_getElem? (i := 0) rfl) ?_
          refine uu_iload_n dX12_pattern_139 rfl (List.mem_of_getElem? (i := 3) rfl) ?_
          obtain ⟨v11, e12, h⟩ := uu_ob h
          refine uu_cv (d1 := 0) (k := 1079) (ci := 12) (T := TX12) (N := 153) (As := [.int x3]) (st := []) (st' := [.int (bI v11)]) (xc_X12_escapes uk  e12) so_1079.is (by decide) rfl kX12_escapes lX12_624 sX12_escapes (by decide) (Nat.le_of_ble_eq_true rfl) dX12_pattern_140 rfl ?_
          refine uu_ifb_eq (tgt := 179) dX12_pattern_143 (by decide) (fun c13 => ?_) (fun c13 => ?_)
          · replace h := uu_neg c13 h
            refine uu_aload_n dX12_pattern_179 rfl (List.mem_of_getElem? (i := 0) rfl) ?_
            refine uu_geta (ci := 12) (N := 153) fX12_116 (by decide) so_1079.is (by decide) (c := 1093) (by decide) dX12_pattern_180 ?_
            refine uu_iload_n dX12_pattern_183 rfl (List.mem_of_getElem? (i := 2) rfl) ?_
            obtain ⟨v14, e15, h⟩ := uu_ob h
            refine uu_iald e15 dX12_pattern_184 ?_
            refine uu_aload_n dX12_pattern_185 rfl (List.mem_of_getElem? (i := 0) rfl) ?_
            refine uu_geta (ci := 12) (N := 153) fX12_122 (by decide) so_1079.is (by decide) (c := 1094) (by decide) dX12_pattern_186 ?_
            refine uu_iload_n dX12_pattern_189 rfl (List.mem_of_getElem? (i := 3) rfl) ?_
            obtain ⟨v16, e17, h⟩ := uu_ob h
            refine uu_iald e17 dX12_pattern_190 ?_
            refine uu_iload_n dX12_pattern_191 rfl (List.mem_of_getElem? (i := 1) rfl) ?_
            obtain ⟨v18, e19, h⟩ := uu_ob h
            refine uu_cs (d1 := 1) (As := [.int v14, .int v16, .int (bI b1)]) (st := []) (st' := [.int (bI v18)]) (xc_X12_same uk  e19) kX12_same lX12_610 sX12_same (by decide) (Nat.le_of_ble_eq_true rfl) dX12_pattern_192 rfl ?_
            refine uu_ifb_eq (tgt := 207) dX12_pattern_195 (by decide) (fun c20 => ?_) (fun c20 => ?_)
            · replace h := uu_neg c20 h
              refine uu_iinc (v := x3 + 1) dX12_pattern_207 (k := 3) rfl rfl (by decide) rfl ?_
              refine uu_goto (tgt := 74) dX12_pattern_210 (by decide) ?_
              refine uu_lv [1, 2, 3, 0] (lv' := [(0, .ref (B + 1079)), (1, .int (bI b1)), (2, .int x2), (3, .int (x3 + 1))]) rfl ?_
              exact hK74 b1 x2 (x3 + 1) _ _ h
            · replace h := uu_pos c20 h
              refine uu_aload_n dX12_pattern_198 rfl (List.mem_of_getElem? (i := 0) rfl) ?_
              refine uu_geta (ci := 12) (N := 153) fX12_621 (by decide) so_1079.is (by decide) (c := 1142) (by decide) dX12_pattern_199 ?_
              refine uu_iload_n dX12_pattern_202 rfl (List.mem_of_getElem? (i := 3) rfl) ?_
              refine uu_iconst (v := 1) dX12_pattern_203 (by decide) ?_
              refine uu_iadd dX12_pattern_204 ?_
              refine uu_iconst (v := 1) dX12_pattern_205 (by decide) ?_
              obtain ⟨s21, e22, h⟩ := uu_ob h
              refine uu_zast e22 dX12_pattern_206 ?_
              refine uu_iinc (v := x3 + 1) dX12_pattern_207 (k := 3) rfl rfl (by decide) rfl ?_
              refine uu_goto (tgt := 74) dX12_pattern_210 (by decide) ?_
              refine uu_lv [1, 2, 3, 0] (lv' := [(0, .ref (B + 1079)), (1, .int (bI b1)), (2, .int x2), (3, .int (x3 + 1))]) rfl ?_
              exact hK74 b1 x2 (x3 + 1) _ _ h
          · replace h := uu_pos c13 h
            refine uu_aload_n dX12_pattern_146 rfl (List.mem_of_getElem? (i := 0) rfl) ?_
            refine uu_geta (ci := 12) (N := 153) fX12_116 (by decide) so_1079.is (by decide) (c := 1093) (by decide) dX12_pattern_147 ?_
            refine uu_iload_n dX12_pattern_150 rfl (List.mem_of_getElem? (i := 2) rfl) ?_
            obtain ⟨v23, e24, h⟩ := uu_ob h
            refine uu_iald e24 dX12_pattern_151 ?_
            refine uu_aload_n dX12_pattern_152 rfl (List.mem_of_getElem? (i := 0) rfl) ?_
            refine uu_geta (ci := 12) (N := 153) fX12_122 (by decide) so_1079.is (by decide) (c := 1094) (by decide) dX12_pattern_153 ?_
            refine uu_iload_n dX12_pattern_156 rfl (List.mem_of_getElem? (i := 3) rfl) ?_
            refine uu_iconst (v := 1) dX12_pattern_157 (by decide) ?_
            refine uu_iadd dX12_pattern_158 ?_
            obtain ⟨v25, e26, h⟩ := uu_ob h
            refine uu_iald e26 dX12_pattern_159 ?_
            refine uu_iload_n dX12_pattern_160 rfl (List.mem_of_getElem? (i := 1) rfl) ?_
            obtain ⟨v27, e28, h⟩ := uu_ob h
            refine uu_cs (d1 := 1) (As := [.int v23, .int v25, .int (bI b1)]) (st := []) (st' := [.int (bI v27)]) (xc_X12_same uk  e28) kX12_same lX12_610 sX12_same (by decide) (Nat.le_of_ble_eq_true rfl) dX12_pattern_161 rfl ?_
            refine uu_ifb_eq (tgt := 207) dX12_pattern_164 (by decide) (fun c29 => ?_) (fun c29 => ?_)
            · replace h := uu_neg c29 h
              refine uu_iinc (v := x3 + 1) dX12_pattern_207 (k := 3) rfl rfl (by decide) rfl ?_
              refine uu_goto (tgt := 74) dX12_pattern_210 (by decide) ?_
              refine uu_lv [1, 2, 3, 0] (lv' := [(0, .ref (B + 1079)), (1, .int (bI b1)), (2, .int x2), (3, .int (x3 + 1))]) rfl ?_
              exact hK74 b1 x2 (x3 + 1) _ _ h
            · replace h := uu_pos c29 h
              refine uu_aload_n dX12_pattern_167 rfl (List.mem_of_getElem? (i := 0) rfl) ?_
              refine uu_geta (ci := 12) (N := 153) fX12_621 (by decide) so_1079.is (by decide) (c := 1142) (by decide) dX12_pattern_168 ?_
              refine uu_iload_n dX12_pattern_171 rfl (List.mem_of_getElem? (i := 3) rfl) ?_
              refine uu_iconst (v := 2) dX12_pattern_172 (by decide) ?_
              refine uu_iadd dX12_pattern_173 ?_
              refine uu_iconst (v := 1) dX12_pattern_174 (by decide) ?_
              obtain ⟨s30, e31, h⟩ := uu_ob h
              refine uu_zast e31 dX12_pattern_175 ?_
              refine uu_goto (tgt := 207) dX12_pattern_176 (by decide) ?_
              refine uu_iinc (v := x3 + 1) dX12_pattern_207 (k := 3) rfl rfl (by decide) rfl ?_
              refine uu_goto (tgt := 74) dX12_pattern_210 (by decide) ?_
              refine uu_lv [1, 2, 3, 0] (lv' := [(0, .ref (B + 1079)), (1, .int (bI b1)), (2, .int x2), (3, .int (x3 + 1))]) rfl ?_
              exact hK74 b1 x2 (x3 + 1) _ _ h
        · replace h := uu_pos c10 h
          refine uu_aload_n dX12_pattern_126 rfl (List.mem_of_getElem? (i := 0) rfl) ?_
          refine uu_geta (ci := 12) (N := 153) fX12_621 (by decide) so_1079.is (by decide) (c := 1142) (by decide) dX12_pattern_127 ?_
          refine uu_iload_n dX12_pattern_130 rfl (List.mem_of_getElem? (i := 3) rfl) ?_
          refine uu_iconst (v := 1) dX12_pattern_131 (by decide) ?_
          refine uu_iadd dX12_pattern_132 ?_
          refine uu_iconst (v := 1) dX12_pattern_133 (by decide) ?_
          obtain ⟨s32, e33, h⟩ := uu_ob h
          refine uu_zast e33 dX12_pattern_134 ?_
          refine uu_goto (tgt := 207) dX12_pattern_135 (by decide) ?_
          refine uu_iinc (v := x3 + 1) dX12_pattern_207 (k := 3) rfl rfl (by decide) rfl ?_
          refine uu_goto (tgt := 74) dX12_pattern_210 (by decide) ?_
          refine uu_lv [1, 2, 3, 0] (lv' := [(0, .ref (B + 1079)), (1, .int (bI b1)), (2, .int x2), (3, .int (x3 + 1))]) rfl ?_
          exact hK74 b1 x2 (x3 + 1) _ _ h
      · replace h := uu_pos c7 h
        refine uu_aload_n dX12_pattern_105 rfl (List.mem_of_getElem? (i := 0) rfl) ?_
        refine uu_geta (ci := 12) (N := 153) fX12_621 (by decide) so_1079.is (by decide) (c := 1142) (by decide) dX12_pattern_106 ?_
        refine uu_iload_n dX12_pattern_109 rfl (List.mem_of_getElem? (i := 3) rfl) ?_
        refine uu_iconst (v := 1) dX12_pattern_110 (by decide) ?_
        obtain ⟨s34, e35, h⟩ := uu_ob h
        refine uu_zast e35 dX12_pattern_111 ?_
        refine uu_goto (tgt := 207) dX12_pattern_112 (by decide) ?_
        refine uu_iinc (v := x3 + 1) dX12_pattern_207 (k := 3) rfl rfl (by decide) rfl ?_
        refine uu_goto (tgt := 74) dX12_pattern_210 (by decide) ?_
        refine uu_lv [1, 2, 3, 0] (lv' := [(0, .ref (B + 1079)), (1, .int (bI b1)), (2, .int x2), (3, .int (x3 + 1))]) rfl ?_
        exact hK74 b1 x2 (x3 + 1) _ _ h
    · replace h := uu_pos c4 h
      refine uu_goto (tgt := 207) dX12_pattern_91 (by decide) ?_
      refine uu_iinc (v := x3 + 1) dX12_pattern_207 (k := 3) rfl rfl (by decide) rfl ?_
      refine uu_goto (tgt := 74) dX12_pattern_210 (by decide) ?_
      refine uu_lv [1, 2, 3, 0] (lv' := [(0, .ref (B + 1079)), (1, .int (bI b1)), (2, .int x2), (3, .int (x3 + 1))]) rfl ?_
      exact hK74 b1 x2 (x3 + 1) _ _ h
def fn_X12_pattern_74 (K41 : Bool → Int32 → uS → Option (uS × Bool)) : Nat → Bool → Int32 → Int32 → uS → Option (uS × Bool)
  | 0 => fun _ _ _ _ => none
  | n + 1 => fb_X12_pattern_74 K41 (fn_X12_pattern_74 K41 n)
set_option maxRecDepth 100000 in
set_option maxHeartbeats 4000000 in
theorem xn_X12_pattern_74 {l : Launch} {D : va_G} {A : Nat → ClassId} {B : Nat} {Z : State → Heap → Prop} {vF : Value} (uk : uK B Z vF) {K41 : Bool → Int32 → uS → Option (uS × Bool)} (hK41 : ∀ (b1 : Bool) (x2 : Int32)  (s : uS) (r : (uS × Bool)), K41 b1 x2 s = some r → GU l D A B Z mX12_pattern 2 (r.1, some (.int (bI r.2))) s 41 [(0, .ref (B + 1079)), (1, .int (bI b1)), (2, .int x2)] []) : ∀ (n : Nat) (b1 : Bool) (x2 : Int32) (x3 : Int32)  (s : uS) (r : (uS × Bool)), fn_X12_pattern_74 K41 n b1 x2 x3 s = some r → GU l D A B Z mX12_pattern 2 (r.1, some (.int (bI r.2))) s 74 [(0, .ref (B + 1079)), (1, .int (bI b1)), (2, .int x2), (3, .int x3)] [] := by
  intro n
  induction n with
  | zero => intro b1 x2 x3 s r h
            cases h
  | succ n ih => intro b1 x2 x3 s r h
                 exact xb_X12_pattern_74 uk hK41 ih  h
def fb_X12_pattern_51 (K41 : Bool → Int32 → uS → Option (uS × Bool)) (K51 : Bool → Int32 → Int32 → uS → Option (uS × Bool)) (b1 : Bool) (x2 : Int32) (x3 : Int32) (s : uS) : Option (uS × Bool) := if (s.I 1079 23) < x3 then (fn_X12_pattern_74 K41 uFu b1 x2 0 s) else ((iput 22 s 1142 x3 0).bind fun s2 => K51 b1 x2 (x3 + 1) s2)
set_option maxRecDepth 100000 in
set_option maxHeartbeats 4000000 in
theorem xb_X12_pattern_51 {l : Launch} {D : va_G} {A : Nat → ClassId} {B : Nat} {Z : State → Heap → Prop} {vF : Value} (uk : uK B Z vF) {K41 : Bool → Int32 → uS → Option (uS × Bool)} {K51 : Bool → Int32 → Int32 → uS → Option (uS × Bool)} (hK41 : ∀ (b1 : Bool) (x2 : Int32)  (s : uS) (r : (uS × Bool)), K41 b1 x2 s = some r → GU l D A B Z mX12_pattern 2 (r.1, some (.int (bI r.2))) s 41 [(0, .ref (B + 1079)), (1, .int (bI b1)), (2, .int x2)] []) (hK51 : ∀ (b1 : Bool) (x2 : Int32) (x3 : Int32)  (s : uS) (r : (uS × Bool)), K51 b1 x2 x3 s = some r → GU l D A B Z mX12_pattern 2 (r.1, some (.int (bI r.2))) s 51 [(0, .ref (B + 1079)), (1, .int (bI b1)), (2, .int x2), (3, .int x3)] []) {b1 : Bool} {x2 : Int32} {x3 : Int32} {s : uS} {r : (uS × Bool)}  (h : fb_X12_pattern_51 K41 K51 b1 x2 x3 s = some r) : GU l D A B Z mX12_pattern 2 (r.1, some (.int (bI r.2))) s 51 [(0, .ref (B + 1079)), (1, .int (bI b1)), (2, .int x2), (3, .int x3)] [] := by
  unfold fb_X12_pattern_51 at h
  refine uu_iload_n dX12_pattern_51 rfl (List.mem_of_getElem? (i := 3) rfl) ?_
  refine uu_aload_n dX12_pattern_52 rfl (List.mem_of_getElem? (i := 0) rfl) ?_
  refine uu_geti (ci := 12) (N := 153) fX12_113 (by decide) so_1079.is (by decide) (by decide) dX12_pattern_53 ?_
  refine uu_icmp_gt (tgt := 72) dX12_pattern_56 (by decide) (fun c1 => ?_) (fun c1 => ?_)
  · replace h := uu_pos c1 h
    refine uu_iconst (v := 0) dX12_pattern_72 (by decide) ?_
    refine uu_istore_n dX12_pattern_73 rfl (by decide) rfl ?_
    refine uu_lv [1, 2, 3, 0] (lv' := [(0, .ref (B + 1079)), (1, .int (bI b1)), (2, .int x2), (3, .int 0)]) rfl ?_
    exact xn_X12_pattern_74 uk hK41 _ _ _ _ _ _ h
  · replace h := uu_neg c1 h
    refine uu_aload_n dX12_pattern_59 rfl (List.mem_of_getElem? (i := 0) rfl) ?_
    refine uu_geta (ci := 12) (N := 153) fX12_621 (by decide) so_1079.is (by decide) (c := 1142) (by decide) dX12_pattern_60 ?_
    refine uu_iload_n dX12_pattern_63 rfl (List.mem_of_getElem? (i := 3) rfl) ?_
    refine uu_iconst (v := 0) dX12_pattern_64 (by decide) ?_
    obtain ⟨s2, e3, h⟩ := uu_ob h
    refine uu_zast e3 dX12_pattern_65 ?_
    refine uu_iinc (v := x3 + 1) dX12_pattern_66 (k := 3) rfl rfl (by decide) rfl ?_
    refine uu_goto (tgt := 51) dX12_pattern_69 (by decide) ?_
    refine uu_lv [1, 2, 3, 0] (lv' := [(0, .ref (B + 1079)), (1, .int (bI b1)), (2, .int x2), (3, .int (x3 + 1))]) rfl ?_
    exact hK51 b1 x2 (x3 + 1) _ _ h
def fn_X12_pattern_51 (K41 : Bool → Int32 → uS → Option (uS × Bool)) : Nat → Bool → Int32 → Int32 → uS → Option (uS × Bool)
  | 0 => fun _ _ _ _ => none
  | n + 1 => fb_X12_pattern_51 K41 (fn_X12_pattern_51 K41 n)
set_option maxRecDepth 100000 in
set_option maxHeartbeats 4000000 in
theorem xn_X12_pattern_51 {l : Launch} {D : va_G} {A : Nat → ClassId} {B : Nat} {Z : State → Heap → Prop} {vF : Value} (uk : uK B Z vF) {K41 : Bool → Int32 → uS → Option (uS × Bool)} (hK41 : ∀ (b1 : Bool) (x2 : Int32)  (s : uS) (r : (uS × Bool)), K41 b1 x2 s = some r → GU l D A B Z mX12_pattern 2 (r.1, some (.int (bI r.2))) s 41 [(0, .ref (B + 1079)), (1, .int (bI b1)), (2, .int x2)] []) : ∀ (n : Nat) (b1 : Bool) (x2 : Int32) (x3 : Int32)  (s : uS) (r : (uS × Bool)), fn_X12_pattern_51 K41 n b1 x2 x3 s = some r → GU l D A B Z mX12_pattern 2 (r.1, some (.int (bI r.2))) s 51 [(0, .ref (B + 1079)), (1, .int (bI b1)), (2, .int x2), (3, .int x3)] [] := by
  intro n
  induction n with
  | zero => intro b1 x2 x3 s r h
            cases h
  | succ n ih => intro b1 x2 x3 s r h
                 exact xb_X12_pattern_51 uk hK41 ih  h
def fb_X12_pattern_41 (K41 : Bool → Int32 → uS → Option (uS × Bool)) (b1 : Bool) (x2 : Int32) (s : uS) : Option (uS × Bool) := if (s.I 1079 21) ≤ x2 then ((iget 22 s 1141 (s.I 1079 23)).bind fun v2 => if v2 = 0 ∨ v2 = 1 then (some (s, decide (v2 = 1))) else none) else (fn_X12_pattern_51 K41 uFu b1 x2 0 s)
set_option maxRecDepth 100000 in
set_option maxHeartbeats 4000000 in
theorem xb_X12_pattern_41 {l : Launch} {D : va_G} {A : Nat → ClassId} {B : Nat} {Z : State → Heap → Prop} {vF : Value} (uk : uK B Z vF) {K41 : Bool → Int32 → uS → Option (uS × Bool)} (hK41 : ∀ (b1 : Bool) (x2 : Int32)  (s : uS) (r : (uS × Bool)), K41 b1 x2 s = some r → GU l D A B Z mX12_pattern 2 (r.1, some (.int (bI r.2))) s 41 [(0, .ref (B + 1079)), (1, .int (bI b1)), (2, .int x2)] []) {b1 : Bool} {x2 : Int32} {s : uS} {r : (uS × Bool)}  (h : fb_X12_pattern_41 K41 b1 x2 s = some r) : GU l D A B Z mX12_pattern 2 (r.1, some (.int (bI r.2))) s 41 [(0, .ref (B + 1079)), (1, .int (bI b1)), (2, .int x2)] [] := by
  unfold fb_X12_pattern_41 at h
  refine uu_iload_n dX12_pattern_41 rfl (List.mem_of_getElem? (i := 2) rfl) ?_
  refine uu_aload_n dX12_pattern_42 rfl (List.mem_of_getElem? (i := 0) rfl) ?_
  refine uu_geti (ci := 12) (N := 153) fX12_110 (by decide) so_1079.is (by decide) (by decide) dX12_pattern_43 ?_
  refine uu_icmp_ge (tgt := 255) dX12_pattern_46 (by decide) (fun c1 => ?_) (fun c1 => ?_)
  · replace h := uu_pos c1 h
    refine uu_aload_n dX12_pattern_255 rfl (List.mem_of_getElem? (i := 0) rfl) ?_
    refine uu_geta (ci := 12) (N := 153) fX12_614 (by decide) so_1079.is (by decide) (c := 1141) (by decide) dX12_pattern_256 ?_
    refine uu_aload_n dX12_pattern_259 rfl (List.mem_of_getElem? (i := 0) rfl) ?_
    refine uu_geti (ci := 12) (N := 153) fX12_113 (by decide) so_1079.is (by decide) (by decide) dX12_pattern_260 ?_
    obtain ⟨v2, e3, h⟩ := uu_ob h
    refine uu_zald e3 dX12_pattern_263 ?_
    obtain ⟨g4, h⟩ := uu_grd h
    have hr := Option.some.inj h
    subst hr
    exact uu_zret2 g4 rfl dX12_pattern_264
  · replace h := uu_neg c1 h
    refine uu_iconst (v := 0) dX12_pattern_49 (by decide) ?_
    refine uu_istore_n dX12_pattern_50 rfl (by decide) rfl ?_
    refine uu_lv [1, 2, 3, 0] (lv' := [(0, .ref (B + 1079)), (1, .int (bI b1)), (2, .int x2), (3, .int 0)]) rfl ?_
    exact xn_X12_pattern_51 uk hK41 _ _ _ _ _ _ h
def fn_X12_pattern_41  : Nat → Bool → Int32 → uS → Option (uS × Bool)
  | 0 => fun _ _ _ => none
  | n + 1 => fb_X12_pattern_41 (fn_X12_pattern_41  n)
set_option maxRecDepth 100000 in
set_option maxHeartbeats 4000000 in
theorem xn_X12_pattern_41 {l : Launch} {D : va_G} {A : Nat → ClassId} {B : Nat} {Z : State → Heap → Prop} {vF : Value} (uk : uK B Z vF)   : ∀ (n : Nat) (b1 : Bool) (x2 : Int32)  (s : uS) (r : (uS × Bool)), fn_X12_pattern_41  n b1 x2 s = some r → GU l D A B Z mX12_pattern 2 (r.1, some (.int (bI r.2))) s 41 [(0, .ref (B + 1079)), (1, .int (bI b1)), (2, .int x2)] [] := by
  intro n
  induction n with
  | zero => intro b1 x2 s r h
            cases h
  | succ n ih => intro b1 x2 s r h
                 exact xb_X12_pattern_41 uk ih  h
def fb_X12_pattern_2 (K2 : Bool → Int32 → uS → Option (uS × Bool)) (b1 : Bool) (x2 : Int32) (s : uS) : Option (uS × Bool) := if (s.I 1079 23) < x2 then ((fn_X12_spread 1141 s).bind fun s2 => fn_X12_pattern_41 uFu b1 0 s2) else (if x2 = 0 then ((iput 22 s 1141 x2 1).bind fun s7 => K2 b1 (x2 + 1) s7) else ((iput 22 s 1141 x2 0).bind fun s5 => K2 b1 (x2 + 1) s5))
set_option maxRecDepth 100000 in
set_option maxHeartbeats 4000000 in
theorem xb_X12_pattern_2 {l : Launch} {D : va_G} {A : Nat → ClassId} {B : Nat} {Z : State → Heap → Prop} {vF : Value} (uk : uK B Z vF) {K2 : Bool → Int32 → uS → Option (uS × Bool)} (hK2 : ∀ (b1 : Bool) (x2 : Int32)  (s : uS) (r : (uS × Bool)), K2 b1 x2 s = some r → GU l D A B Z mX12_pattern 2 (r.1, some (.int (bI r.2))) s 2 [(0, .ref (B + 1079)), (1, .int (bI b1)), (2, .int x2)] []) {b1 : Bool} {x2 : Int32} {s : uS} {r : (uS × Bool)}  (h : fb_X12_pattern_2 K2 b1 x2 s = some r) : GU l D A B Z mX12_pattern 2 (r.1, some (.int (bI r.2))) s 2 [(0, .ref (B + 1079)), (1, .int (bI b1)), (2, .int x2)] [] := by
  unfold fb_X12_pattern_2 at h
  refine uu_iload_n dX12_pattern_2 rfl (List.mem_of_getElem? (i := 2) rfl) ?_
  refine uu_aload_n dX12_pattern_3 rfl (List.mem_of_getElem? (i := 0) rfl) ?_
  refine uu_geti (ci := 12) (N := 153) fX12_113 (by decide) so_1079.is (by decide) (by decide) dX12_pattern_4 ?_
  refine uu_icmp_gt (tgt := 31) dX12_pattern_7 (by decide) (fun c1 => ?_) (fun c1 => ?_)
  · replace h := uu_pos c1 h
    refine uu_aload_n dX12_pattern_31 rfl (List.mem_of_getElem? (i := 0) rfl) ?_
    refine uu_aload_n dX12_pattern_32 rfl (List.mem_of_getElem? (i := 0) rfl) ?_
    refine uu_geta (ci := 12) (N := 153) fX12_614 (by decide) so_1079.is (by decide) (c := 1141) (by decide) dX12_pattern_33 ?_
    obtain ⟨s2, e3, h⟩ := uu_ob h
    refine uu_cv (d1 := 0) (k := 1079) (ci := 12) (T := TX12) (N := 153) (As := [.ref (B + 1141)]) (st := []) (st' := []) (xc_X12_spread uk  e3) so_1079.is (by decide) rfl kX12_spread lX12_617 sX12_spread (by decide) (Nat.le_of_ble_eq_true rfl) dX12_pattern_36 rfl ?_
    refine uu_iconst (v := 0) dX12_pattern_39 (by decide) ?_
    refine uu_istore_n dX12_pattern_40 rfl (by decide) rfl ?_
    refine uu_lv [1, 2, 0] (lv' := [(0, .ref (B + 1079)), (1, .int (bI b1)), (2, .int 0)]) rfl ?_
    exact xn_X12_pattern_41 uk  _ _ _ _ _ h
  · replace h := uu_neg c1 h
    refine uu_aload_n dX12_pattern_10 rfl (List.mem_of_getElem? (i := 0) rfl) ?_
    refine uu_geta (ci := 12) (N := 153) fX12_614 (by decide) so_1079.is (by decide) (c := 1141) (by decide) dX12_pattern_11 ?_
    refine uu_iload_n dX12_pattern_14 rfl (List.mem_of_getElem? (i := 2) rfl) ?_
    refine uu_iload_n dX12_pattern_15 rfl (List.mem_of_getElem? (i := 2) rfl) ?_
    refine uu_if_ne (tgt := 23) dX12_pattern_16 (by decide) (fun c4 => ?_) (fun c4 => ?_)
    · replace h := uu_neg c4 h
      refine uu_iconst (v := 0) dX12_pattern_23 (by decide) ?_
      obtain ⟨s5, e6, h⟩ := uu_ob h
      refine uu_zast e6 dX12_pattern_24 ?_
      refine uu_iinc (v := x2 + 1) dX12_pattern_25 (k := 2) rfl rfl (by decide) rfl ?_
      refine uu_goto (tgt := 2) dX12_pattern_28 (by decide) ?_
      refine uu_lv [1, 2, 0] (lv' := [(0, .ref (B + 1079)), (1, .int (bI b1)), (2, .int (x2 + 1))]) rfl ?_
      exact hK2 b1 (x2 + 1) _ _ h
    · replace h := uu_pos c4 h
      refine uu_iconst (v := 1) dX12_pattern_19 (by decide) ?_
      refine uu_goto (tgt := 24) dX12_pattern_20 (by decide) ?_
      obtain ⟨s7, e8, h⟩ := uu_ob h
      refine uu_zast e8 dX12_pattern_24 ?_
      refine uu_iinc (v := x2 + 1) dX12_pattern_25 (k := 2) rfl rfl (by decide) rfl ?_
      refine uu_goto (tgt := 2) dX12_pattern_28 (by decide) ?_
      refine uu_lv [1, 2, 0] (lv' := [(0, .ref (B + 1079)), (1, .int (bI b1)), (2, .int (x2 + 1))]) rfl ?_
      exact hK2 b1 (x2 + 1) _ _ h
def fn_X12_pattern_2  : Nat → Bool → Int32 → uS → Option (uS × Bool)
  | 0 => fun _ _ _ => none
  | n + 1 => fb_X12_pattern_2 (fn_X12_pattern_2  n)
set_option maxRecDepth 100000 in
set_option maxHeartbeats 4000000 in
theorem xn_X12_pattern_2 {l : Launch} {D : va_G} {A : Nat → ClassId} {B : Nat} {Z : State → Heap → Prop} {vF : Value} (uk : uK B Z vF)   : ∀ (n : Nat) (b1 : Bool) (x2 : Int32)  (s : uS) (r : (uS × Bool)), fn_X12_pattern_2  n b1 x2 s = some r → GU l D A B Z mX12_pattern 2 (r.1, some (.int (bI r.2))) s 2 [(0, .ref (B + 1079)), (1, .int (bI b1)), (2, .int x2)] [] := by
  intro n
  induction n with
  | zero => intro b1 x2 s r h
            cases h
  | succ n ih => intro b1 x2 s r h
                 exact xb_X12_pattern_2 uk ih  h
def fn_X12_pattern (b1 : Bool) (s : uS) : Option (uS × Bool) := fn_X12_pattern_2 uFu b1 0 s
set_option maxRecDepth 100000 in
set_option maxHeartbeats 4000000 in
theorem xc_X12_pattern {l : Launch} {D : va_G} {A : Nat → ClassId} {B : Nat} {Z : State → Heap → Prop} {vF : Value} (uk : uK B Z vF) {b1 : Bool} {s : uS} {r : (uS × Bool)}  (h : fn_X12_pattern b1 s = some r) : CU l D A B Z 2 mX12_pattern s [.ref (B + 1079), .int (bI b1)] (r.1, some (.int (bI r.2))) := by
  unfold fn_X12_pattern at h
  refine cu_of rfl uk.1.1 (Nat.le_of_ble_eq_true rfl) ?_
  show GU _ _ _ _ _ _ _ _ _ 0 [(0, .ref (B + 1079)), (1, .int (bI b1))] []
  refine uu_iconst (v := 0) dX12_pattern_0 (by decide) ?_
  refine uu_istore_n dX12_pattern_1 rfl (by decide) rfl ?_
  refine uu_lv [1, 2, 0] (lv' := [(0, .ref (B + 1079)), (1, .int (bI b1)), (2, .int 0)]) rfl ?_
  exact xn_X12_pattern_2 uk  _ _ _ _ _ h
