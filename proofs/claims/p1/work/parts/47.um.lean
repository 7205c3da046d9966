abbrev mX12_digits : hM := (yX12_digits, cX12_digits, 4, (some (.int)))
theorem dX12_digits_41 : decode cX12_digits 41 = .ok (.lstore_n 1, 1) := by decide +kernel
theorem dX12_digits_42 : decode cX12_digits 42 = .ok (.aload_n 0, 1) := by decide +kernel
theorem dX12_digits_43 : decode cX12_digits 43 = .ok (.aload_n 0, 1) := by decide +kernel
theorem dX12_digits_44 : decode cX12_digits 44 = .ok (.getfield 181, 3) := by decide +kernel
theorem dX12_digits_47 : decode cX12_digits 47 = .ok (.iconst 1, 1) := by decide +kernel
theorem dX12_digits_48 : decode cX12_digits 48 = .ok (.iadd, 1) := by decide +kernel
theorem dX12_digits_49 : decode cX12_digits 49 = .ok (.putfield 181, 3) := by decide +kernel
theorem dX12_digits_52 : decode cX12_digits 52 = .ok (.goto (-50), 3) := by decide +kernel
theorem dX12_digits_133 : decode cX12_digits 133 = .ok (.aload_n 0, 1) := by decide +kernel
theorem dX12_digits_134 : decode cX12_digits 134 = .ok (.iconst 0, 1) := by decide +kernel
theorem dX12_digits_135 : decode cX12_digits 135 = .ok (.invokevirtual 190, 3) := by decide +kernel
theorem kX12_isWordByte : h_ml mX12_isWordByte 1 := ⟨h_t8 90 rfl rfl, h_t1 16 rfl rfl, ⟨by decide, by decide, by decide +kernel⟩, by decide⟩
theorem lX12_227 : Cond.methodLink RX12 227 mX12_isWordByte.1 ∈ lw_g := h_t8 88 rfl rfl
theorem sX12_isWordByte : Cond.static mX12_isWordByte.1 ∈ lw_g := h_t8 89 rfl rfl
theorem dX12_digits_138 : decode cX12_digits 138 = .ok (.invokestatic 227, 3) := by decide +kernel
theorem dX12_digits_141 : decode cX12_digits 141 = .ok (.ifCond .ne 11, 3) := by decide +kernel
theorem dX12_digits_152 : decode cX12_digits 152 = .ok (.iconst 5, 1) := by decide +kernel
theorem dX12_digits_153 : decode cX12_digits 153 = .ok (.ireturn, 1) := by decide +kernel
theorem dX12_digits_144 : decode cX12_digits 144 = .ok (.lload_n 1, 1) := by decide +kernel
theorem cX12_249 : Cond.constantLong RX12 249 (2147483647) ∈ lw_g := h_t8 122 rfl rfl
theorem dX12_digits_145 : decode cX12_digits 145 = .ok (.ldc2_w 249, 3) := by decide +kernel
theorem dX12_digits_148 : decode cX12_digits 148 = .ok (.lcmp, 1) := by decide +kernel
theorem dX12_digits_149 : decode cX12_digits 149 = .ok (.ifCond .le 5, 3) := by decide +kernel
theorem dX12_digits_154 : decode cX12_digits 154 = .ok (.aload_n 0, 1) := by decide +kernel
theorem dX12_digits_155 : decode cX12_digits 155 = .ok (.lload_n 1, 1) := by decide +kernel
theorem dX12_digits_156 : decode cX12_digits 156 = .ok (.l2i, 1) := by decide +kernel
theorem fX12_251 : h_fl RX12 251 12 35 RX12 TX12 153 := ⟨rfl, by decide, inX12, h_t11 236 rfl rfl⟩
theorem dX12_digits_157 : decode cX12_digits 157 = .ok (.putfield 251, 3) := by decide +kernel
theorem dX12_digits_160 : decode cX12_digits 160 = .ok (.iconst 3, 1) := by decide +kernel
theorem dX12_digits_161 : decode cX12_digits 161 = .ok (.ireturn, 1) := by decide +kernel
theorem dX12_digits_107 : decode cX12_digits 107 = .ok (.iload_n 3, 1) := by decide +kernel
theorem dX12_digits_108 : decode cX12_digits 108 = .ok (.bipush 107, 2) := by decide +kernel
theorem dX12_digits_110 : decode cX12_digits 110 = .ok (.if_icmp .ne 8, 3) := by decide +kernel
theorem dX12_digits_118 : decode cX12_digits 118 = .ok (.iload_n 3, 1) := by decide +kernel
theorem dX12_digits_119 : decode cX12_digits 119 = .ok (.bipush 109, 2) := by decide +kernel
theorem dX12_digits_121 : decode cX12_digits 121 = .ok (.if_icmp .ne 8, 3) := by decide +kernel
theorem dX12_digits_129 : decode cX12_digits 129 = .ok (.bipush 30, 2) := by decide +kernel
theorem dX12_digits_131 : decode cX12_digits 131 = .ok (.lshl, 1) := by decide +kernel
theorem dX12_digits_132 : decode cX12_digits 132 = .ok (.lstore_n 1, 1) := by decide +kernel
theorem dX12_digits_124 : decode cX12_digits 124 = .ok (.bipush 20, 2) := by decide +kernel
theorem dX12_digits_126 : decode cX12_digits 126 = .ok (.goto 5, 3) := by decide +kernel
theorem dX12_digits_113 : decode cX12_digits 113 = .ok (.bipush 10, 2) := by decide +kernel
theorem dX12_digits_115 : decode cX12_digits 115 = .ok (.goto 16, 3) := by decide +kernel
theorem dX12_digits_82 : decode cX12_digits 82 = .ok (.aload_n 0, 1) := by decide +kernel
theorem dX12_digits_83 : decode cX12_digits 83 = .ok (.aload_n 0, 1) := by decide +kernel
theorem dX12_digits_84 : decode cX12_digits 84 = .ok (.getfield 181, 3) := by decide +kernel
theorem dX12_digits_87 : decode cX12_digits 87 = .ok (.iconst 1, 1) := by decide +kernel
theorem dX12_digits_88 : decode cX12_digits 88 = .ok (.iadd, 1) := by decide +kernel
theorem dX12_digits_89 : decode cX12_digits 89 = .ok (.putfield 181, 3) := by decide +kernel
theorem dX12_digits_92 : decode cX12_digits 92 = .ok (.lload_n 1, 1) := by decide +kernel
theorem cX12_247 : Cond.constantLong RX12 247 (4294967296) ∈ lw_g := h_t8 121 rfl rfl
theorem dX12_digits_93 : decode cX12_digits 93 = .ok (.ldc2_w 247, 3) := by decide +kernel
theorem dX12_digits_96 : decode cX12_digits 96 = .ok (.lcmp, 1) := by decide +kernel
theorem dX12_digits_97 : decode cX12_digits 97 = .ok (.ifCond .ge 7, 3) := by decide +kernel
theorem dX12_digits_104 : decode cX12_digits 104 = .ok (.ldc2_w 247, 3) := by decide +kernel
theorem dX12_digits_100 : decode cX12_digits 100 = .ok (.lload_n 1, 1) := by decide +kernel
theorem dX12_digits_101 : decode cX12_digits 101 = .ok (.goto 6, 3) := by decide +kernel
theorem dX12_digits_2 : decode cX12_digits 2 = .ok (.aload_n 0, 1) := by decide +kernel
theorem dX12_digits_3 : decode cX12_digits 3 = .ok (.iconst 0, 1) := by decide +kernel
theorem dX12_digits_4 : decode cX12_digits 4 = .ok (.invokevirtual 190, 3) := by decide +kernel
theorem dX12_digits_7 : decode cX12_digits 7 = .ok (.invokestatic 137, 3) := by decide +kernel
theorem dX12_digits_10 : decode cX12_digits 10 = .ok (.ifCond .eq 45, 3) := by decide +kernel
theorem dX12_digits_55 : decode cX12_digits 55 = .ok (.aload_n 0, 1) := by decide +kernel
theorem dX12_digits_56 : decode cX12_digits 56 = .ok (.iconst 0, 1) := by decide +kernel
theorem dX12_digits_57 : decode cX12_digits 57 = .ok (.invokevirtual 190, 3) := by decide +kernel
theorem dX12_digits_60 : decode cX12_digits 60 = .ok (.invokestatic 119, 3) := by decide +kernel
theorem dX12_digits_63 : decode cX12_digits 63 = .ok (.istore_n 3, 1) := by decide +kernel
theorem dX12_digits_64 : decode cX12_digits 64 = .ok (.iload_n 3, 1) := by decide +kernel
theorem dX12_digits_65 : decode cX12_digits 65 = .ok (.bipush 107, 2) := by decide +kernel
theorem dX12_digits_67 : decode cX12_digits 67 = .ok (.if_icmp .eq 15, 3) := by decide +kernel
theorem dX12_digits_70 : decode cX12_digits 70 = .ok (.iload_n 3, 1) := by decide +kernel
theorem dX12_digits_71 : decode cX12_digits 71 = .ok (.bipush 109, 2) := by decide +kernel
theorem dX12_digits_73 : decode cX12_digits 73 = .ok (.if_icmp .eq 9, 3) := by decide +kernel
theorem dX12_digits_76 : decode cX12_digits 76 = .ok (.iload_n 3, 1) := by decide +kernel
theorem dX12_digits_77 : decode cX12_digits 77 = .ok (.bipush 103, 2) := by decide +kernel
theorem dX12_digits_79 : decode cX12_digits 79 = .ok (.if_icmp .ne 54, 3) := by decide +kernel
theorem dX12_digits_13 : decode cX12_digits 13 = .ok (.lload_n 1, 1) := by decide +kernel
theorem cX12_241 : Cond.constantLong RX12 241 (10000000000) ∈ lw_g := h_t8 118 rfl rfl
theorem dX12_digits_14 : decode cX12_digits 14 = .ok (.ldc2_w 241, 3) := by decide +kernel
theorem dX12_digits_17 : decode cX12_digits 17 = .ok (.lcmp, 1) := by decide +kernel
theorem dX12_digits_18 : decode cX12_digits 18 = .ok (.ifCond .ge 22, 3) := by decide +kernel
theorem dX12_digits_40 : decode cX12_digits 40 = .ok (.lload_n 1, 1) := by decide +kernel
theorem cX12_243 : Cond.constantLong RX12 243 (10) ∈ lw_g := h_t8 119 rfl rfl
theorem dX12_digits_21 : decode cX12_digits 21 = .ok (.ldc2_w 243, 3) := by decide +kernel
theorem dX12_digits_24 : decode cX12_digits 24 = .ok (.lload_n 1, 1) := by decide +kernel
theorem dX12_digits_25 : decode cX12_digits 25 = .ok (.lmul, 1) := by decide +kernel
theorem dX12_digits_26 : decode cX12_digits 26 = .ok (.aload_n 0, 1) := by decide +kernel
theorem dX12_digits_27 : decode cX12_digits 27 = .ok (.iconst 0, 1) := by decide +kernel
theorem dX12_digits_28 : decode cX12_digits 28 = .ok (.invokevirtual 190, 3) := by decide +kernel
theorem dX12_digits_31 : decode cX12_digits 31 = .ok (.i2l, 1) := by decide +kernel
theorem dX12_digits_32 : decode cX12_digits 32 = .ok (.ladd, 1) := by decide +kernel
theorem cX12_245 : Cond.constantLong RX12 245 (48) ∈ lw_g := h_t8 120 rfl rfl
theorem dX12_digits_33 : decode cX12_digits 33 = .ok (.ldc2_w 245, 3) := by decide +kernel
theorem dX12_digits_36 : decode cX12_digits 36 = .ok (.lsub, 1) := by decide +kernel
theorem dX12_digits_37 : decode cX12_digits 37 = .ok (.goto 4, 3) := by decide +kernel
theorem dX12_digits_0 : decode cX12_digits 0 = .ok (.lconst 0, 1) := by decide +kernel
theorem dX12_digits_1 : decode cX12_digits 1 = .ok (.lstore_n 1, 1) := by decide +kernel
def fb_X12_digits_41 (K2 : Int64 → uS → Option (uS × Int32)) (ls0 : Int64) (s : uS) : Option (uS × Int32) := K2 ls0 (wI s 1079 30 ((s.I 1079 30) + 1))
set_option maxRecDepth 100000 in
set_option maxHeartbeats 4000000 in
theorem xb_X12_digits_41 {l : Launch} {D : va_G} {A : Nat → ClassId} {B : Nat} {Z : State → Heap → Prop} {vF : Value} (uk : uK B Z vF) {K2 : Int64 → uS → Option (uS × Int32)} (hK2 : ∀ (l1 : Int64)  (s : uS) (r : (uS × Int32)), K2 l1 s = some r → GU l D A B Z mX12_digits 2 (r.1, some (.int r.2)) s 2 [(0, .ref (B + 1079)), (1, .long l1)] []) {ls0 : Int64} {s : uS} {r : (uS × Int32)}  (h : fb_X12_digits_41 K2 ls0 s = some r) : GU l D A B Z mX12_digits 2 (r.1, some (.int r.2)) s 41 [(0, .ref (B + 1079))] [.long ls0] := by
  unfold fb_X12_digits_41 at h
  refine uu_lstore_n dX12_digits_41 rfl (by decide) rfl ?_
  refine uu_aload_n dX12_digits_42 rfl (List.mem_of_getElem? (i := 1) rfl) ?_
  refine uu_aload_n dX12_digits_43 rfl (List.mem_of_getElem? (i := 1) rfl) ?_
  refine uu_geti (ci := 12) (N := 153) fX12_181 (by decide) so_1079.is (by decide) (by decide) dX12_digits_44 ?_
  refine uu_iconst (v := 1) dX12_digits_47 (by decide) ?_
  refine uu_iadd dX12_digits_48 ?_
  refine uu_puti (ft := .int) (ci := 12) (N := 153) fX12_181 ptX12 (Or.inl rfl) (by decide) so_1079.is (by decide) (by decide) (by decide +kernel) rfl rfl dX12_digits_49 ?_
  refine uu_goto (tgt := 2) dX12_digits_52 (by decide) ?_
  refine uu_lv [1, 0] (lv' := [(0, .ref (B + 1079)), (1, .long ls0)]) rfl ?_
  exact hK2 ls0 _ _ h
def fb_X12_digits_133  (l1 : Int64) (s : uS) : Option (uS × Int32) := (fn_X12_peek 0 s).bind fun v1 => (fn_X12_isWordByte v1 s).bind fun v3 => if v3 = true then (some (s, (5 : Int32))) else (if (lg_cmp l1 2147483647) ≤ 0 then (some (wI s 1079 35 l1.toInt32, (3 : Int32))) else (some (s, (5 : Int32))))
set_option maxRecDepth 100000 in
set_option maxHeartbeats 4000000 in
theorem xb_X12_digits_133 {l : Launch} {D : va_G} {A : Nat → ClassId} {B : Nat} {Z : State → Heap → Prop} {vF : Value} (uk : uK B Z vF)   {l1 : Int64} {s : uS} {r : (uS × Int32)}  (h : fb_X12_digits_133  l1 s = some r) : GU l D A B Z mX12_digits 2 (r.1, some (.int r.2)) s 133 [(0, .ref (B + 1079)), (1, .long l1)] [] := by
  unfold fb_X12_digits_133 at h
  refine uu_aload_n dX12_digits_133 rfl (List.mem_of_getElem? (i := 0) rfl) ?_
  refine uu_iconst (v := 0) dX12_digits_134 (by decide) ?_
  obtain ⟨v1, e2, h⟩ := uu_ob h
  refine uu_cv (d1 := 0) (k := 1079) (ci := 12) (T := TX12) (N := 153) (As := [.int 0]) (st := []) (st' := [.int v1]) (xc_X12_peek uk  e2) so_1079.is (by decide) rfl kX12_peek lX12_190 sX12_peek (by decide) (Nat.le_of_ble_eq_true rfl) dX12_digits_135 rfl ?_
  obtain ⟨v3, e4, h⟩ := uu_ob h
  refine uu_cs (d1 := 1) (As := [.int v1]) (st := []) (st' := [.int (bI v3)]) (xc_X12_isWordByte uk  e4) kX12_isWordByte lX12_227 sX12_isWordByte (by decide) (Nat.le_of_ble_eq_true rfl) dX12_digits_138 rfl ?_
  refine uu_ifb_ne (tgt := 152) dX12_digits_141 (by decide) (fun c5 => ?_) (fun c5 => ?_)
  · replace h := uu_pos c5 h
    refine uu_iconst (v := 5) dX12_digits_152 (by decide) ?_
    have hr := Option.some.inj h
    subst hr
    exact uu_iret rfl dX12_digits_153
  · replace h := uu_neg c5 h
    refine uu_lload_n dX12_digits_144 rfl (List.mem_of_getElem? (i := 1) rfl) ?_
    refine uu_ldc2 (v := 2147483647) cX12_249 dX12_digits_145 ?_
    refine uu_lcmp dX12_digits_148 ?_
    refine uu_if_le (tgt := 154) dX12_digits_149 (by decide) (fun c6 => ?_) (fun c6 => ?_)
    · replace h := uu_pos c6 h
      refine uu_aload_n dX12_digits_154 rfl (List.mem_of_getElem? (i := 0) rfl) ?_
      refine uu_lload_n dX12_digits_155 rfl (List.mem_of_getElem? (i := 1) rfl) ?_
      refine uu_l2i dX12_digits_156 rfl ?_
      refine uu_puti (ft := .int) (ci := 12) (N := 153) fX12_251 ptX12 (Or.inl rfl) (by decide) so_1079.is (by decide) (by decide) (by decide +kernel) rfl rfl dX12_digits_157 ?_
      refine uu_iconst (v := 3) dX12_digits_160 (by decide) ?_
      have hr := Option.some.inj h
      subst hr
      exact uu_iret rfl dX12_digits_161
    · replace h := uu_neg c6 h
      refine uu_iconst (v := 5) dX12_digits_152 (by decide) ?_
      have hr := Option.some.inj h
      subst hr
      exact uu_iret rfl dX12_digits_153
def fb_X12_digits_107  (x3 : Int32) (ls0 : Int64) (s : uS) : Option (uS × Int32) := if x3 = 107 then (fb_X12_digits_133 (ls0 <<< ((10 : Int32).toInt64 &&& 63)) s) else (if x3 = 109 then (fb_X12_digits_133 (ls0 <<< ((20 : Int32).toInt64 &&& 63)) s) else (fb_X12_digits_133 (ls0 <<< ((30 : Int32).toInt64 &&& 63)) s))
set_option maxRecDepth 100000 in
set_option maxHeartbeats 4000000 in
theorem xb_X12_digits_107 {l : Launch} {D : va_G} {A : Nat → ClassId} {B : Nat} {Z : State → Heap → Prop} {vF : Value} (uk : uK B Z vF)   {x3 : Int32} {ls0 : Int64} {s : uS} {r : (uS × Int32)}  (h : fb_X12_digits_107  x3 ls0 s = some r) : GU l D A B Z mX12_digits 2 (r.1, some (.int r.2)) s 107 [(0, .ref (B + 1079)), (3, .int x3)] [.long ls0] := by
  unfold fb_X12_digits_107 at h
  refine uu_iload_n dX12_digits_107 rfl (List.mem_of_getElem? (i := 1) rfl) ?_
  refine uu_bipush (v := 107) dX12_digits_108 (by decide) ?_
  refine uu_icmp_ne (tgt := 118) dX12_digits_110 (by decide) (fun c1 => ?_) (fun c1 => ?_)
  · replace h := uu_neg c1 h
    refine uu_iload_n dX12_digits_118 rfl (List.mem_of_getElem? (i := 1) rfl) ?_
    refine uu_bipush (v := 109) dX12_digits_119 (by decide) ?_
    refine uu_icmp_ne (tgt := 129) dX12_digits_121 (by decide) (fun c2 => ?_) (fun c2 => ?_)
    · replace h := uu_neg c2 h
      refine uu_bipush (v := 30) dX12_digits_129 (by decide) ?_
      refine uu_lshl dX12_digits_131 rfl ?_
      refine uu_lstore_n dX12_digits_132 rfl (by decide) rfl ?_
      refine uu_lv [1, 0] (lv' := [(0, .ref (B + 1079)), (1, .long (ls0 <<< ((30 : Int32).toInt64 &&& 63)))]) rfl ?_
      exact xb_X12_digits_133 uk  h
    · replace h := uu_pos c2 h
      refine uu_bipush (v := 20) dX12_digits_124 (by decide) ?_
      refine uu_goto (tgt := 131) dX12_digits_126 (by decide) ?_
      refine uu_lshl dX12_digits_131 rfl ?_
      refine uu_lstore_n dX12_digits_132 rfl (by decide) rfl ?_
      refine uu_lv [1, 0] (lv' := [(0, .ref (B + 1079)), (1, .long (ls0 <<< ((20 : Int32).toInt64 &&& 63)))]) rfl ?_
      exact xb_X12_digits_133 uk  h
  · replace h := uu_pos c1 h
    refine uu_bipush (v := 10) dX12_digits_113 (by decide) ?_
    refine uu_goto (tgt := 131) dX12_digits_115 (by decide) ?_
    refine uu_lshl dX12_digits_131 rfl ?_
    refine uu_lstore_n dX12_digits_132 rfl (by decide) rfl ?_
    refine uu_lv [1, 0] (lv' := [(0, .ref (B + 1079)), (1, .long (ls0 <<< ((10 : Int32).toInt64 &&& 63)))]) rfl ?_
    exact xb_X12_digits_133 uk  h
def fb_X12_digits_82  (l1 : Int64) (x3 : Int32) (s : uS) : Option (uS × Int32) := if 0 ≤ (lg_cmp l1 4294967296) then (fb_X12_digits_107 x3 4294967296 (wI s 1079 30 ((s.I 1079 30) + 1))) else (fb_X12_digits_107 x3 l1 (wI s 1079 30 ((s.I 1079 30) + 1)))
set_option maxRecDepth 100000 in
set_option maxHeartbeats 4000000 in
theorem xb_X12_digits_82 {l : Launch} {D : va_G} {A : Nat → ClassId} {B : Nat} {Z : State → Heap → Prop} {vF : Value} (uk : uK B Z vF)   {l1 : Int64} {x3 : Int32} {s : uS} {r : (uS × Int32)}  (h : fb_X12_digits_82  l1 x3 s = some r) : GU l D A B Z mX12_digits 2 (r.1, some (.int r.2)) s 82 [(0, .ref (B + 1079)), (1, .long l1), (3, .int x3)] [] := by
  unfold fb_X12_digits_82 at h
  refine uu_aload_n dX12_digits_82 rfl (List.mem_of_getElem? (i := 0) rfl) ?_
  refine uu_aload_n dX12_digits_83 rfl (List.mem_of_getElem? (i := 0) rfl) ?_
  refine uu_geti (ci := 12) (N := 153) fX12_181 (by decide) so_1079.is (by decide) (by decide) dX12_digits_84 ?_
  refine uu_iconst (v := 1) dX12_digits_87 (by decide) ?_
  refine uu_iadd dX12_digits_88 ?_
  refine uu_puti (ft := .int) (ci := 12) (N := 153) fX12_181 ptX12 (Or.inl rfl) (by decide) so_1079.is (by decide) (by decide) (by decide +kernel) rfl rfl dX12_digits_89 ?_
  refine uu_lload_n dX12_digits_92 rfl (List.mem_of_getElem? (i := 1) rfl) ?_
  refine uu_ldc2 (v := 4294967296) cX12_247 dX12_digits_93 ?_
  refine uu_lcmp dX12_digits_96 ?_
  refine uu_if_ge (tgt := 104) dX12_digits_97 (by decide) (fun c1 => ?_) (fun c1 => ?_)
  · replace h := uu_pos c1 h
    refine uu_ldc2 (v := 4294967296) cX12_247 dX12_digits_104 ?_
    refine uu_lv [0, 2] (lv' := [(0, .ref (B + 1079)), (3, .int x3)]) rfl ?_
    exact xb_X12_digits_107 uk  h
  · replace h := uu_neg c1 h
    refine uu_lload_n dX12_digits_100 rfl (List.mem_of_getElem? (i := 1) rfl) ?_
    refine uu_goto (tgt := 107) dX12_digits_101 (by decide) ?_
    refine uu_lv [0, 2] (lv' := [(0, .ref (B + 1079)), (3, .int x3)]) rfl ?_
    exact xb_X12_digits_107 uk  h
def fb_X12_digits_2 (K2 : Int64 → uS → Option (uS × Int32)) (l1 : Int64) (s : uS) : Option (uS × Int32) := (fn_X12_peek 0 s).bind fun v1 => (fn_X12_isDigit v1 s).bind fun v3 => if v3 = true then (if 0 ≤ (lg_cmp l1 10000000000) then (fb_X12_digits_41 K2 l1 s) else ((fn_X12_peek 0 s).bind fun v14 => fb_X12_digits_41 K2 ((((10 : Int64) * l1) + v14.toInt64) - 48) s)) else ((fn_X12_peek 0 s).bind fun v6 => (fn_X12_low v6 s).bind fun v8 => if v8 = 107 then (fb_X12_digits_82 l1 v8 s) else (if v8 = 109 then (fb_X12_digits_82 l1 v8 s) else (if v8 = 103 then (fb_X12_digits_82 l1 v8 s) else (fb_X12_digits_133 l1 s))))
set_option maxRecDepth 100000 in
set_option maxHeartbeats 4000000 in
theorem xb_X12_digits_2 {l : Launch} {D : va_G} {A : Nat → ClassId} {B : Nat} {Z : State → Heap → Prop} {vF : Value} (uk : uK B Z vF) {K2 : Int64 → uS → Option (uS × Int32)} (hK2 : ∀ (l1 : Int64)  (s : uS) (r : (uS × Int32)), K2 l1 s = some r → GU l D A B Z mX12_digits 2 (r.1, some (.int r.2)) s 2 [(0, .ref (B + 1079)), (1, .long l1)] []) {l1 : Int64} {s : uS} {r : (uS × Int32)}  (h : fb_X12_digits_2 K2 l1 s = some r) : GU l D A B Z mX12_digits 2 (r.1, some (.int r.2)) s 2 [(0, .ref (B + 1079)), (1, .long l1)] [] := by
  unfold fb_X12_digits_2 at h
  refine uu_aload_n dX12_digits_2 rfl (List.mem_of_getElem? (i := 0) rfl) ?_
  refine uu_iconst (v := 0) dX12_digits_3 (by decide) ?_
  obtain ⟨v1, e2, h⟩ := uu_ob h
  refine uu_cv (d1 := 0) (k := 1079) (ci := 12) (T := TX12) (N := 153) (As := [.int 0]) (st := []) (st' := [.int v1]) (xc_X12_peek uk  e2) so_1079.is (by decide) rfl kX12_peek lX12_190 sX12_peek (by decide) (Nat.le_of_ble_eq_true rfl) dX12_digits_4 rfl ?_
  obtain ⟨v3, e4, h⟩ := uu_ob h
  refine uu_cs (d1 := 0) (As := [.int v1]) (st := []) (st' := [.int (bI v3)]) (xc_X12_isDigit uk  e4) kX12_isDigit lX12_137 sX12_isDigit (by decide) (Nat.le_of_ble_eq_true rfl) dX12_digits_7 rfl ?_
  refine uu_ifb_eq (tgt := 55) dX12_digits_10 (by decide) (fun c5 => ?_) (fun c5 => ?_)
  · replace h := uu_neg c5 h
    refine uu_aload_n dX12_digits_55 rfl (List.mem_of_getElem? (i := 0) rfl) ?_
    refine uu_iconst (v := 0) dX12_digits_56 (by decide) ?_
    obtain ⟨v6, e7, h⟩ := uu_ob h
    refine uu_cv (d1 := 0) (k := 1079) (ci := 12) (T := TX12) (N := 153) (As := [.int 0]) (st := []) (st' := [.int v6]) (xc_X12_peek uk  e7) so_1079.is (by decide) rfl kX12_peek lX12_190 sX12_peek (by decide) (Nat.le_of_ble_eq_true rfl) dX12_digits_57 rfl ?_
    obtain ⟨v8, e9, h⟩ := uu_ob h
    refine uu_cs (d1 := 0) (As := [.int v6]) (st := []) (st' := [.int v8]) (xc_X12_low uk  e9) kX12_low lX12_119 sX12_low (by decide) (Nat.le_of_ble_eq_true rfl) dX12_digits_60 rfl ?_
    refine uu_istore_n dX12_digits_63 rfl (by decide) rfl ?_
    refine uu_iload_n dX12_digits_64 rfl (List.mem_of_getElem? (i := 0) rfl) ?_
    refine uu_bipush (v := 107) dX12_digits_65 (by decide) ?_
    refine uu_icmp_eq (tgt := 82) dX12_digits_67 (by decide) (fun c10 => ?_) (fun c10 => ?_)
    · replace h := uu_pos c10 h
      refine uu_lv [1, 2, 0] (lv' := [(0, .ref (B + 1079)), (1, .long l1), (3, .int v8)]) rfl ?_
      exact xb_X12_digits_82 uk  h
    · replace h := uu_neg c10 h
      refine uu_iload_n dX12_digits_70 rfl (List.mem_of_getElem? (i := 0) rfl) ?_
      refine uu_bipush (v := 109) dX12_digits_71 (by decide) ?_
      refine uu_icmp_eq (tgt := 82) dX12_digits_73 (by decide) (fun c11 => ?_) (fun c11 => ?_)
      · replace h := uu_pos c11 h
        refine uu_lv [1, 2, 0] (lv' := [(0, .ref (B + 1079)), (1, .long l1), (3, .int v8)]) rfl ?_
        exact xb_X12_digits_82 uk  h
      · replace h := uu_neg c11 h
        refine uu_iload_n dX12_digits_76 rfl (List.mem_of_getElem? (i := 0) rfl) ?_
        refine uu_bipush (v := 103) dX12_digits_77 (by decide) ?_
        refine uu_icmp_ne (tgt := 133) dX12_digits_79 (by decide) (fun c12 => ?_) (fun c12 => ?_)
        · replace h := uu_neg c12 h
          refine uu_lv [1, 2] (lv' := [(0, .ref (B + 1079)), (1, .long l1)]) rfl ?_
          exact xb_X12_digits_133 uk  h
        · replace h := uu_pos c12 h
          refine uu_lv [1, 2, 0] (lv' := [(0, .ref (B + 1079)), (1, .long l1), (3, .int v8)]) rfl ?_
          exact xb_X12_digits_82 uk  h
  · replace h := uu_pos c5 h
    refine uu_lload_n dX12_digits_13 rfl (List.mem_of_getElem? (i := 1) rfl) ?_
    refine uu_ldc2 (v := 10000000000) cX12_241 dX12_digits_14 ?_
    refine uu_lcmp dX12_digits_17 ?_
    refine uu_if_ge (tgt := 40) dX12_digits_18 (by decide) (fun c13 => ?_) (fun c13 => ?_)
    · replace h := uu_pos c13 h
      refine uu_lload_n dX12_digits_40 rfl (List.mem_of_getElem? (i := 1) rfl) ?_
      refine uu_lv [0] (lv' := [(0, .ref (B + 1079))]) rfl ?_
      exact xb_X12_digits_41 uk hK2 h
    · replace h := uu_neg c13 h
      refine uu_ldc2 (v := 10) cX12_243 dX12_digits_21 ?_
      refine uu_lload_n dX12_digits_24 rfl (List.mem_of_getElem? (i := 1) rfl) ?_
      refine uu_lmul dX12_digits_25 ?_
      refine uu_aload_n dX12_digits_26 rfl (List.mem_of_getElem? (i := 0) rfl) ?_
      refine uu_iconst (v := 0) dX12_digits_27 (by decide) ?_
      obtain ⟨v14, e15, h⟩ := uu_ob h
      refine uu_cv (d1 := 0) (k := 1079) (ci := 12) (T := TX12) (N := 153) (As := [.int 0]) (st := [.long ((10 : Int64) * l1)]) (st' := [.int v14, .long ((10 : Int64) * l1)]) (xc_X12_peek uk  e15) so_1079.is (by decide) rfl kX12_peek lX12_190 sX12_peek (by decide) (Nat.le_of_ble_eq_true rfl) dX12_digits_28 rfl ?_
      refine uu_i2l dX12_digits_31 rfl ?_
      refine uu_ladd dX12_digits_32 ?_
      refine uu_ldc2 (v := 48) cX12_245 dX12_digits_33 ?_
      refine uu_lsub dX12_digits_36 ?_
      refine uu_goto (tgt := 41) dX12_digits_37 (by decide) ?_
      refine uu_lv [0] (lv' := [(0, .ref (B + 1079))]) rfl ?_
      exact xb_X12_digits_41 uk hK2 h
def fn_X12_digits_2  : Nat → Int64 → uS → Option (uS × Int32)
  | 0 => fun _ _ => none
  | n + 1 => fb_X12_digits_2 (fn_X12_digits_2  n)
set_option maxRecDepth 100000 in
set_option maxHeartbeats 4000000 in
theorem xn_X12_digits_2 {l : Launch} {D : va_G} {A : Nat → ClassId} {B : Nat} {Z : State → Heap → Prop} {vF : Value} (uk : uK B Z vF)   : ∀ (n : Nat) (l1 : Int64)  (s : uS) (r : (uS × Int32)), fn_X12_digits_2  n l1 s = some r → GU l D A B Z mX12_digits 2 (r.1, some (.int r.2)) s 2 [(0, .ref (B + 1079)), (1, .long l1)] [] := by
  intro n
  induction n with
  | zero => intro l1 s r h
            cases h
  | succ n ih => intro l1 s r h
                 exact xb_X12_digits_2 uk ih  h
def fn_X12_digits  (s : uS) : Option (uS × Int32) := fn_X12_digits_2 uFu 0 s
set_option maxRecDepth 100000 in
set_option maxHeartbeats 4000000 in
theorem xc_X12_digits {l : Launch} {D : va_G} {A : Nat → ClassId} {B : Nat} {Z : State → Heap → Prop} {vF : Value} (uk : uK B Z vF)  {s : uS} {r : (uS × Int32)}  (h : fn_X12_digits  s = some r) : CU l D A B Z 2 mX12_digits s [.ref (B + 1079)] (r.1, some (.int r.2)) := by
  unfold fn_X12_digits at h
  refine cu_of rfl uk.1.1 (Nat.le_of_ble_eq_true rfl) ?_
  show GU _ _ _ _ _ _ _ _ _ 0 [(0, .ref (B + 1079))] []
  refine uu_lconst (v := 0) dX12_digits_0 (by decide) ?_
  refine uu_lstore_n dX12_digits_1 rfl (by decide) rfl ?_
  refine uu_lv [1, 0] (lv' := [(0, .ref (B + 1079)), (1, .long 0)]) rfl ?_
  exact xn_X12_digits_2 uk  _ _ _ _ h
abbrev mX12_wordOf : hM := (yX12_wordOf, cX12_wordOf, 1, none)
theorem dX12_wordOf_8 : decode cX12_wordOf 8 = .ok (.aload_n 0, 1) := by decide +kernel
theorem dX12_wordOf_9 : decode cX12_wordOf 9 = .ok (.iconst 0, 1) := by decide +kernel
theorem dX12_wordOf_10 : decode cX12_wordOf 10 = .ok (.invokevirtual 190, 3) := by decide +kernel
theorem dX12_wordOf_13 : decode cX12_wordOf 13 = .ok (.invokestatic 227, 3) := by decide +kernel
theorem dX12_wordOf_16 : decode cX12_wordOf 16 = .ok (.ifCond .eq 16, 3) := by decide +kernel
theorem dX12_wordOf_32 : decode cX12_wordOf 32 = .ok (.aload_n 0, 1) := by decide +kernel
theorem dX12_wordOf_33 : decode cX12_wordOf 33 = .ok (.aload_n 0, 1) := by decide +kernel
theorem dX12_wordOf_34 : decode cX12_wordOf 34 = .ok (.getfield 181, 3) := by decide +kernel
theorem dX12_wordOf_37 : decode cX12_wordOf 37 = .ok (.aload_n 0, 1) := by decide +kernel
theorem fX12_224 : h_fl RX12 224 12 33 RX12 TX12 153 := ⟨rfl, by decide, inX12, h_t11 234 rfl rfl⟩
theorem dX12_wordOf_38 : decode cX12_wordOf 38 = .ok (.getfield 224, 3) := by decide +kernel
theorem dX12_wordOf_41 : decode cX12_wordOf 41 = .ok (.isub, 1) := by decide +kernel
theorem fX12_230 : h_fl RX12 230 12 34 RX12 TX12 153 := ⟨rfl, by decide, inX12, h_t11 235 rfl rfl⟩
theorem dX12_wordOf_42 : decode cX12_wordOf 42 = .ok (.putfield 230, 3) := by decide +kernel
theorem dX12_wordOf_45 : decode cX12_wordOf 45 = .ok (.return_, 1) := by decide +kernel
theorem dX12_wordOf_19 : decode cX12_wordOf 19 = .ok (.aload_n 0, 1) := by decide +kernel
theorem dX12_wordOf_20 : decode cX12_wordOf 20 = .ok (.aload_n 0, 1) := by decide +kernel
theorem dX12_wordOf_21 : decode cX12_wordOf 21 = .ok (.getfield 181, 3) := by decide +kernel
theorem dX12_wordOf_24 : decode cX12_wordOf 24 = .ok (.iconst 1, 1) := by decide +kernel
theorem dX12_wordOf_25 : decode cX12_wordOf 25 = .ok (.iadd, 1) := by decide +kernel
theorem dX12_wordOf_26 : decode cX12_wordOf 26 = .ok (.putfield 181, 3) := by decide +kernel
theorem dX12_wordOf_29 : decode cX12_wordOf 29 = .ok (.goto (-21), 3) := by decide +kernel
theorem dX12_wordOf_0 : decode cX12_wordOf 0 = .ok (.aload_n 0, 1) := by decide +kernel
theorem dX12_wordOf_1 : decode cX12_wordOf 1 = .ok (.aload_n 0, 1) := by decide +kernel
theorem dX12_wordOf_2 : decode cX12_wordOf 2 = .ok (.getfield 181, 3) := by decide +kernel
theorem dX12_wordOf_5 : decode cX12_wordOf 5 = .ok (.putfield 224, 3) := by decide +kernel
def fb_X12_wordOf_8 (K8 : uS → Option uS)  (s : uS) : Option uS := (fn_X12_peek 0 s).bind fun v1 => (fn_X12_isWordByte v1 s).bind fun v3 => if v3 = true then (K8 (wI s 1079 30 ((s.I 1079 30) + 1))) else (some (wI s 1079 34 ((s.I 1079 30) - (s.I 1079 33))))
set_option maxRecDepth 100000 in
set_option maxHeartbeats 4000000 in
theorem xb_X12_wordOf_8 {l : Launch} {D : va_G} {A : Nat → ClassId} {B : Nat} {Z : State → Heap → Prop} {vF : Value} (uk : uK B Z vF) {K8 : uS → Option uS} (hK8 : ∀   (s : uS) (r : uS), K8  s = some r → GU l D A B Z mX12_wordOf 2 (r, none) s 8 [(0, .ref (B + 1079))] [])  {s : uS} {r : uS}  (h : fb_X12_wordOf_8 K8  s = some r) : GU l D A B Z mX12_wordOf 2 (r, none) s 8 [(0, .ref (B + 1079))] [] := by
  unfold fb_X12_wordOf_8 at h
  refine uu_aload_n dX12_wordOf_8 rfl (List.mem_of_getElem? (i := 0) rfl) ?_
  refine uu_iconst (v := 0) dX12_wordOf_9 (by decide) ?_
  obtain ⟨v1, e2, h⟩ := uu_ob h
  refine uu_cv (d1 := 0) (k := 1079) (ci := 12) (T := TX12) (N := 153) (As := [.int 0]) (st := []) (st' := [.int v1]) (xc_X12_peek uk  e2) so_1079.is (by decide) rfl kX12_peek lX12_190 sX12_peek (by decide) (Nat.le_of_ble_eq_true rfl) dX12_wordOf_10 rfl ?_
  obtain ⟨v3, e4, h⟩ := uu_ob h
  refine uu_cs (d1 := 1) (As := [.int v1]) (st := []) (st' := [.int (bI v3)]) (xc_X12_isWordByte uk  e4) kX12_isWordByte lX12_227 sX12_isWordByte (by decide) (Nat.le_of_ble_eq_true rfl) dX12_wordOf_13 rfl ?_
  refine uu_ifb_eq (tgt := 32) dX12_wordOf_16 (by decide) (fun c5 => ?_) (fun c5 => ?_)
  · replace h := uu_neg c5 h
    refine uu_aload_n dX12_wordOf_32 rfl (List.mem_of_getElem? (i := 0) rfl) ?_
    refine uu_aload_n dX12_wordOf_33 rfl (List.mem_of_getElem? (i := 0) rfl) ?_
    refine uu_geti (ci := 12) (N := 153) fX12_181 (by decide) so_1079.is (by decide) (by decide) dX12_wordOf_34 ?_
    refine uu_aload_n dX12_wordOf_37 rfl (List.mem_of_getElem? (i := 0) rfl) ?_
    refine uu_geti (ci := 12) (N := 153) fX12_224 (by decide) so_1079.is (by decide) (by decide) dX12_wordOf_38 ?_
    refine uu_isub dX12_wordOf_41 ?_
    refine uu_puti (ft := .int) (ci := 12) (N := 153) fX12_230 ptX12 (Or.inl rfl) (by decide) so_1079.is (by decide) (by decide) (by decide +kernel) rfl rfl dX12_wordOf_42 ?_
    have hr := Option.some.inj h
    subst hr
    exact uu_vret rfl dX12_wordOf_45
  · replace h := uu_pos c5 h
    refine uu_aload_n dX12_wordOf_19 rfl (List.mem_of_getElem? (i := 0) rfl) ?_
    refine uu_aload_n dX12_wordOf_20 rfl (List.mem_of_getElem? (i := 0) rfl) ?_
    refine uu_geti (ci := 12) (N := 153) fX12_181 (by decide) so_1079.is (by decide) (by decide) dX12_wordOf_21 ?_
    refine uu_iconst (v := 1) dX12_wordOf_24 (by decide) ?_
    refine uu_iadd dX12_wordOf_25 ?_
    refine uu_puti (ft := .int) (ci := 12) (N := 153) fX12_181 ptX12 (Or.inl rfl) (by decide) so_1079.is (by decide) (by decide) (by decide +kernel) rfl rfl dX12_wordOf_26 ?_
    refine uu_goto (tgt := 8) dX12_wordOf_29 (by decide) ?_
    exact hK8  _ _ h
def fn_X12_wordOf_8  : Nat → uS → Option uS
  | 0 => fun _ => none
  | n + 1 => fb_X12_wordOf_8 (fn_X12_wordOf_8  n)
set_option maxRecDepth 100000 in
set_option maxHeartbeats 4000000 in
theorem xn_X12_wordOf_8 {l : Launch} {D : va_G} {A : Nat → ClassId} {B : Nat} {Z : State → Heap → Prop} {vF : Value} (uk : uK B Z vF)   : ∀ (n : Nat)   (s : uS) (r : uS), fn_X12_wordOf_8  n  s = some r → GU l D A B Z mX12_wordOf 2 (r, none) s 8 [(0, .ref (B + 1079))] [] := by
  intro n
  induction n with
  | zero => intro s r h
            cases h
  | succ n ih => intro s r h
                 exact xb_X12_wordOf_8 uk ih  h
def fn_X12_wordOf  (s : uS) : Option uS := fn_X12_wordOf_8 uFu (wI s 1079 33 (s.I 1079 30))
set_option maxRecDepth 100000 in
set_option maxHeartbeats 4000000 in
theorem xc_X12_wordOf {l : Launch} {D : va_G} {A : Nat → ClassId} {B : Nat} {Z : State → Heap → Prop} {vF : Value} (uk : uK B Z vF)  {s : uS} {r : uS}  (h : fn_X12_wordOf  s = some r) : CU l D A B Z 2 mX12_wordOf s [.ref (B + 1079)] (r, none) := by
  unfold fn_X12_wordOf at h
  refine cu_of rfl uk.1.1 (Nat.le_of_ble_eq_true rfl) ?_
  show GU _ _ _ _ _ _ _ _ _ 0 [(0, .ref (B + 1079))] []
  refine uu_aload_n dX12_wordOf_0 rfl (List.mem_of_getElem? (i := 0) rfl) ?_
  refine uu_aload_n dX12_wordOf_1 rfl (List.mem_of_getElem? (i := 0) rfl) ?_
  refine uu_geti (ci := 12) (N := 153) fX12_181 (by decide) so_1079.is (by decide) (by decide) dX12_wordOf_2 ?_
  refine uu_puti (ft := .int) (ci := 12) (N := 153) fX12_224 ptX12 (Or.inl rfl) (by decide) so_1079.is (by decide) (by decide) (by decide +kernel) rfl rfl dX12_wordOf_5 ?_
  exact xn_X12_wordOf_8 uk  _ _ _ h
abbrev mX12_wordIs : hM := (yX12_wordIs, cX12_wordIs, 4, (some (.boolean)))
theorem dX12_wordIs_19 : decode cX12_wordIs 19 = .ok (.iload_n 3, 1) := by decide +kernel
theorem dX12_wordIs_20 : decode cX12_wordIs 20 = .ok (.aload_n 0, 1) := by decide +kernel
theorem dX12_wordIs_21 : decode cX12_wordIs 21 = .ok (.getfield 230, 3) := by decide +kernel
theorem dX12_wordIs_24 : decode cX12_wordIs 24 = .ok (.if_icmp .ge 41, 3) := by decide +kernel
theorem dX12_wordIs_65 : decode cX12_wordIs 65 = .ok (.iload_n 2, 1) := by decide +kernel
theorem dX12_wordIs_66 : decode cX12_wordIs 66 = .ok (.ireturn, 1) := by decide +kernel
theorem dX12_wordIs_27 : decode cX12_wordIs 27 = .ok (.iload_n 2, 1) := by decide +kernel
theorem dX12_wordIs_28 : decode cX12_wordIs 28 = .ok (.ifCond .eq 37, 3) := by decide +kernel
theorem dX12_wordIs_31 : decode cX12_wordIs 31 = .ok (.aload_n 0, 1) := by decide +kernel
theorem dX12_wordIs_32 : decode cX12_wordIs 32 = .ok (.getfield 187, 3) := by decide +kernel
theorem dX12_wordIs_35 : decode cX12_wordIs 35 = .ok (.aload_n 0, 1) := by decide +kernel
theorem dX12_wordIs_36 : decode cX12_wordIs 36 = .ok (.getfield 224, 3) := by decide +kernel
theorem dX12_wordIs_39 : decode cX12_wordIs 39 = .ok (.iload_n 3, 1) := by decide +kernel
theorem dX12_wordIs_40 : decode cX12_wordIs 40 = .ok (.iadd, 1) := by decide +kernel
theorem dX12_wordIs_41 : decode cX12_wordIs 41 = .ok (.iaload, 1) := by decide +kernel
theorem dX12_wordIs_42 : decode cX12_wordIs 42 = .ok (.invokestatic 119, 3) := by decide +kernel
theorem dX12_wordIs_45 : decode cX12_wordIs 45 = .ok (.aload_n 1, 1) := by decide +kernel
theorem dX12_wordIs_46 : decode cX12_wordIs 46 = .ok (.iload_n 3, 1) := by decide +kernel
theorem dX12_wordIs_47 : decode cX12_wordIs 47 = .ok (.invokevirtual 64, 3) := by decide +kernel
theorem dX12_wordIs_50 : decode cX12_wordIs 50 = .ok (.if_icmp .ne 7, 3) := by decide +kernel
theorem dX12_wordIs_57 : decode cX12_wordIs 57 = .ok (.iconst 0, 1) := by decide +kernel
theorem dX12_wordIs_58 : decode cX12_wordIs 58 = .ok (.istore_n 2, 1) := by decide +kernel
theorem dX12_wordIs_59 : decode cX12_wordIs 59 = .ok (.iinc 3 1, 3) := by decide +kernel
theorem dX12_wordIs_62 : decode cX12_wordIs 62 = .ok (.goto (-43), 3) := by decide +kernel
theorem dX12_wordIs_53 : decode cX12_wordIs 53 = .ok (.iconst 1, 1) := by decide +kernel
theorem dX12_wordIs_54 : decode cX12_wordIs 54 = .ok (.goto 4, 3) := by decide +kernel
theorem dX12_wordIs_0 : decode cX12_wordIs 0 = .ok (.aload_n 1, 1) := by decide +kernel
theorem dX12_wordIs_1 : decode cX12_wordIs 1 = .ok (.invokevirtual 58, 3) := by decide +kernel
theorem dX12_wordIs_4 : decode cX12_wordIs 4 = .ok (.aload_n 0, 1) := by decide +kernel
theorem dX12_wordIs_5 : decode cX12_wordIs 5 = .ok (.getfield 230, 3) := by decide +kernel
theorem dX12_wordIs_8 : decode cX12_wordIs 8 = .ok (.if_icmp .ne 7, 3) := by decide +kernel
theorem dX12_wordIs_15 : decode cX12_wordIs 15 = .ok (.iconst 0, 1) := by decide +kernel
theorem dX12_wordIs_16 : decode cX12_wordIs 16 = .ok (.istore_n 2, 1) := by decide +kernel
theorem dX12_wordIs_17 : decode cX12_wordIs 17 = .ok (.iconst 0, 1) := by decide +kernel
theorem dX12_wordIs_18 : decode cX12_wordIs 18 = .ok (.istore_n 3, 1) := by decide +kernel
theorem dX12_wordIs_11 : decode cX12_wordIs 11 = .ok (.iconst 1, 1) := by decide +kernel
theorem dX12_wordIs_12 : decode cX12_wordIs 12 = .ok (.goto 4, 3) := by decide +kernel
def fb_X12_wordIs_19 (K19 : List Nat → Bool → Int32 → uS → Option Bool) (w1 : List Nat) (b2 : Bool) (x3 : Int32) (s : uS) : Option Bool := if (s.I 1079 34) ≤ x3 then (some b2) else (if b2 = true then ((iget 20 s 1096 ((s.I 1079 33) + x3)).bind fun v3 => (fn_X12_low v3 s).bind fun v5 => (stget w1 x3).bind fun v7 => if v5 = v7 then (K19 w1 true (x3 + 1) s) else (K19 w1 false (x3 + 1) s)) else (some b2))
set_option maxRecDepth 100000 in
set_option maxHeartbeats 4000000 in
theorem xb_X12_wordIs_19 {l : Launch} {D : va_G} {A : Nat → ClassId} {B : Nat} {Z : State → Heap → Prop} {vF : Value} (uk : uK B Z vF) {K19 : List Nat → Bool → Int32 → uS → Option Bool} (hK19 : ∀ (w1 : List Nat) (b2 : Bool) (x3 : Int32) {qw1 pw1 : Nat} (hw1 : uStr B Z qw1 pw1 w1) (s : uS) (r : Bool), K19 w1 b2 x3 s = some r → GU l D A B Z mX12_wordIs 4 (s, some (.int (bI r))) s 19 [(0, .ref (B + 1079)), (1, .ref qw1), (2, .int (bI b2)), (3, .int x3)] []) {w1 : List Nat} {b2 : Bool} {x3 : Int32} {s : uS} {r : Bool} {qw1 pw1 : Nat} (hw1 : uStr B Z qw1 pw1 w1) (h : fb_X12_wordIs_19 K19 w1 b2 x3 s = some r) : GU l D A B Z mX12_wordIs 4 (s, some (.int (bI r))) s 19 [(0, .ref (B + 1079)), (1, .ref qw1), (2, .int (bI b2)), (3, .int x3)] [] := by
  unfold fb_X12_wordIs_19 at h
  refine uu_iload_n dX12_wordIs_19 rfl (List.mem_of_getElem? (i := 3) rfl) ?_
  refine uu_aload_n dX12_wordIs_20 rfl (List.mem_of_getElem? (i := 0) rfl) ?_
  refine uu_geti (ci := 12) (N := 153) fX12_230 (by decide) so_1079.is (by decide) (by decide) dX12_wordIs_21 ?_
  refine uu_icmp_ge (tgt := 65) dX12_wordIs_24 (by decide) (fun c1 => ?_) (fun c1 => ?_)
  · replace h := uu_pos c1 h
    refine uu_iload_n dX12_wordIs_65 rfl (List.mem_of_getElem? (i := 2) rfl) ?_
    have hr := Option.some.inj h
    subst hr
    exact uu_zret (x := bI b2) rfl (bI_z _) dX12_wordIs_66
  · replace h := uu_neg c1 h
    refine uu_iload_n dX12_wordIs_27 rfl (List.mem_of_getElem? (i := 2) rfl) ?_
    refine uu_ifb_eq (tgt := 65) dX12_wordIs_28 (by decide) (fun c2 => ?_) (fun c2 => ?_)
    · replace h := uu_neg c2 h
      refine uu_iload_n dX12_wordIs_65 rfl (List.mem_of_getElem? (i := 2) rfl) ?_
      have hr := Option.some.inj h
      subst hr
      exact uu_zret (x := bI b2) rfl (bI_z _) dX12_wordIs_66
    · replace h := uu_pos c2 h
      refine uu_aload_n dX12_wordIs_31 rfl (List.mem_of_getElem? (i := 0) rfl) ?_
      refine uu_geta (ci := 12) (N := 153) fX12_187 (by decide) so_1079.is (by decide) (c := 1096) (by decide) dX12_wordIs_32 ?_
      refine uu_aload_n dX12_wordIs_35 rfl (List.mem_of_getElem? (i := 0) rfl) ?_
      refine uu_geti (ci := 12) (N := 153) fX12_224 (by decide) so_1079.is (by decide) (by decide) dX12_wordIs_36 ?_
      refine uu_iload_n dX12_wordIs_39 rfl (List.mem_of_getElem? (i := 3) rfl) ?_
      refine uu_iadd dX12_wordIs_40 ?_
      obtain ⟨v3, e4, h⟩ := uu_ob h
      refine uu_iald e4 dX12_wordIs_41 ?_
      obtain ⟨v5, e6, h⟩ := uu_ob h
      refine uu_cs (d1 := 0) (As := [.int v3]) (st := []) (st' := [.int v5]) (xc_X12_low uk  e6) kX12_low lX12_119 sX12_low (by decide) (Nat.le_of_ble_eq_true rfl) dX12_wordIs_42 rfl ?_
      refine uu_aload_n dX12_wordIs_45 rfl (List.mem_of_getElem? (i := 1) rfl) ?_
      refine uu_iload_n dX12_wordIs_46 rfl (List.mem_of_getElem? (i := 3) rfl) ?_
      obtain ⟨v7, e8, h⟩ := uu_ob h
      refine uu_sch uk hw1 e8 lX12_64 (by decide) (Nat.le_of_ble_eq_true rfl) dX12_wordIs_47 ?_
      refine uu_icmp_ne (tgt := 57) dX12_wordIs_50 (by decide) (fun c9 => ?_) (fun c9 => ?_)
      · replace h := uu_neg c9 h
        refine uu_iconst (v := 0) dX12_wordIs_57 (by decide) ?_
        refine uu_istore_n dX12_wordIs_58 rfl (by decide) rfl ?_
        refine uu_iinc (v := x3 + 1) dX12_wordIs_59 (k := 3) rfl rfl (by decide) rfl ?_
        refine uu_goto (tgt := 19) dX12_wordIs_62 (by decide) ?_
        refine uu_lv [2, 3, 1, 0] (lv' := [(0, .ref (B + 1079)), (1, .ref qw1), (2, .int 0), (3, .int (x3 + 1))]) rfl ?_
        exact hK19 w1 false (x3 + 1) hw1 _ _ h
      · replace h := uu_pos c9 h
        refine uu_iconst (v := 1) dX12_wordIs_53 (by decide) ?_
        refine uu_goto (tgt := 58) dX12_wordIs_54 (by decide) ?_
        refine uu_istore_n dX12_wordIs_58 rfl (by decide) rfl ?_
        refine uu_iinc (v := x3 + 1) dX12_wordIs_59 (k := 3) rfl rfl (by decide) rfl ?_
        refine uu_goto (tgt := 19) dX12_wordIs_62 (by decide) ?_
        refine uu_lv [2, 3, 1, 0] (lv' := [(0, .ref (B + 1079)), (1, .ref qw1), (2, .int 1), (3, .int (x3 + 1))]) rfl ?_
        exact hK19 w1 true (x3 + 1) hw1 _ _ h
def fn_X12_wordIs_19  : Nat → List Nat → Bool → Int32 → uS → Option Bool
  | 0 => fun _ _ _ _ => none
  | n + 1 => fb_X12_wordIs_19 (fn_X12_wordIs_19  n)
set_option maxRecDepth 100000 in
set_option maxHeartbeats 4000000 in
theorem xn_X12_wordIs_19 {l : Launch} {D : va_G} {A : Nat → ClassId} {B : Nat} {Z : State → Heap → Prop} {vF : Value} (uk : uK B Z vF)   : ∀ (n : Nat) (w1 : List Nat) (b2 : Bool) (x3 : Int32) {qw1 pw1 : Nat} (hw1 : uStr B Z qw1 pw1 w1) (s : uS) (r : Bool), fn_X12_wordIs_19  n w1 b2 x3 s = some r → GU l D A B Z mX12_wordIs 4 (s, some (.int (bI r))) s 19 [(0, .ref (B + 1079)), (1, .ref qw1), (2, .int (bI b2)), (3, .int x3)] [] := by
  intro n
  induction n with
  | zero => intro w1 b2 x3 qw1 pw1 hw1 s r h
            cases h
  | succ n ih => intro w1 b2 x3 qw1 pw1 hw1 s r h
                 exact xb_X12_wordIs_19 uk ih hw1 h
def fn_X12_wordIs (w1 : List Nat) (s : uS) : Option Bool := if (nI w1.length) = (s.I 1079 34) then (fn_X12_wordIs_19 uFu w1 true 0 s) else (fn_X12_wordIs_19 uFu w1 false 0 s)
set_option maxRecDepth 100000 in
set_option maxHeartbeats 4000000 in
theorem xc_X12_wordIs {l : Launch} {D : va_G} {A : Nat → ClassId} {B : Nat} {Z : State → Heap → Prop} {vF : Value} (uk : uK B Z vF) {w1 : List Nat} {s : uS} {r : Bool} {qw1 pw1 : Nat} (hw1 : uStr B Z qw1 pw1 w1) (h : fn_X12_wordIs w1 s = some r) : CU l D A B Z 4 mX12_wordIs s [.ref (B + 1079), .ref qw1] (s, some (.int (bI r))) := by
  unfold fn_X12_wordIs at h
  refine cu_of rfl uk.1.1 (Nat.le_of_ble_eq_true rfl) ?_
  show GU _ _ _ _ _ _ _ _ _ 0 [(0, .ref (B + 1079)), (1, .ref qw1)] []
  refine uu_aload_n dX12_wordIs_0 rfl (List.mem_of_getElem? (i := 1) rfl) ?_
  refine uu_slen uk hw1 lX12_58 (by decide) (Nat.le_of_ble_eq_true rfl) dX12_wordIs_1 ?_
  refine uu_aload_n dX12_wordIs_4 rfl (List.mem_of_getElem? (i := 0) rfl) ?_
  refine uu_geti (ci := 12) (N := 153) fX12_230 (by decide) so_1079.is (by decide) (by decide) dX12_wordIs_5 ?_
  refine uu_icmp_ne (tgt := 15) dX12_wordIs_8 (by decide) (fun c1 => ?_) (fun c1 => ?_)
  · replace h := uu_neg c1 h
    refine uu_iconst (v := 0) dX12_wordIs_15 (by decide) ?_
    refine uu_istore_n dX12_wordIs_16 rfl (by decide) rfl ?_
    refine uu_iconst (v := 0) dX12_wordIs_17 (by decide) ?_
    refine uu_istore_n dX12_wordIs_18 rfl (by decide) rfl ?_
    refine uu_lv [2, 3, 1, 0] (lv' := [(0, .ref (B + 1079)), (1, .ref qw1), (2, .int 0), (3, .int 0)]) rfl ?_
    exact xn_X12_wordIs_19 uk  _ _ _ _ hw1 _ _ h
  · replace h := uu_pos c1 h
    refine uu_iconst (v := 1) dX12_wordIs_11 (by decide) ?_
    refine uu_goto (tgt := 16) dX12_wordIs_12 (by decide) ?_
    refine uu_istore_n dX12_wordIs_16 rfl (by decide) rfl ?_
    refine uu_iconst (v := 0) dX12_wordIs_17 (by decide) ?_
    refine uu_istore_n dX12_wordIs_18 rfl (by decide) rfl ?_
    refine uu_lv [2, 3, 1, 0] (lv' := [(0, .ref (B + 1079)), (1, .ref qw1), (2, .int 1), (3, .int 0)]) rfl ?_
    exact xn_X12_wordIs_19 uk  _ _ _ _ hw1 _ _ h
abbrev mX12_endAt : hM := (yX12_endAt, cX12_endAt, 2, (some (.int)))
theorem dX12_endAt_23 : decode cX12_endAt 23 = .ok (.iload_n 1, 1) := by decide +kernel
theorem dX12_endAt_24 : decode cX12_endAt 24 = .ok (.iconst 1, 1) := by decide +kernel
theorem dX12_endAt_25 : decode cX12_endAt 25 = .ok (.iadd, 1) := by decide +kernel
theorem dX12_endAt_26 : decode cX12_endAt 26 = .ok (.aload_n 0, 1) := by decide +kernel
theorem dX12_endAt_27 : decode cX12_endAt 27 = .ok (.getfield 184, 3) := by decide +kernel
theorem dX12_endAt_30 : decode cX12_endAt 30 = .ok (.if_icmp .ge 31, 3) := by decide +kernel
theorem dX12_endAt_61 : decode cX12_endAt 61 = .ok (.iconst 0, 1) := by decide +kernel
theorem dX12_endAt_62 : decode cX12_endAt 62 = .ok (.ireturn, 1) := by decide +kernel
theorem dX12_endAt_33 : decode cX12_endAt 33 = .ok (.aload_n 0, 1) := by decide +kernel
theorem dX12_endAt_34 : decode cX12_endAt 34 = .ok (.getfield 187, 3) := by decide +kernel
theorem dX12_endAt_37 : decode cX12_endAt 37 = .ok (.iload_n 1, 1) := by decide +kernel
theorem dX12_endAt_38 : decode cX12_endAt 38 = .ok (.iaload, 1) := by decide +kernel
theorem dX12_endAt_39 : decode cX12_endAt 39 = .ok (.bipush 13, 2) := by decide +kernel
theorem dX12_endAt_41 : decode cX12_endAt 41 = .ok (.if_icmp .ne 20, 3) := by decide +kernel
theorem dX12_endAt_44 : decode cX12_endAt 44 = .ok (.aload_n 0, 1) := by decide +kernel
theorem dX12_endAt_45 : decode cX12_endAt 45 = .ok (.getfield 187, 3) := by decide +kernel
theorem dX12_endAt_48 : decode cX12_endAt 48 = .ok (.iload_n 1, 1) := by decide +kernel
theorem dX12_endAt_49 : decode cX12_endAt 49 = .ok (.iconst 1, 1) := by decide +kernel
theorem dX12_endAt_50 : decode cX12_endAt 50 = .ok (.iadd, 1) := by decide +kernel
theorem dX12_endAt_51 : decode cX12_endAt 51 = .ok (.iaload, 1) := by decide +kernel
theorem dX12_endAt_52 : decode cX12_endAt 52 = .ok (.bipush 10, 2) := by decide +kernel
theorem dX12_endAt_54 : decode cX12_endAt 54 = .ok (.if_icmp .ne 7, 3) := by decide +kernel
theorem dX12_endAt_57 : decode cX12_endAt 57 = .ok (.iconst 2, 1) := by decide +kernel
theorem dX12_endAt_58 : decode cX12_endAt 58 = .ok (.goto 4, 3) := by decide +kernel
theorem dX12_endAt_0 : decode cX12_endAt 0 = .ok (.iload_n 1, 1) := by decide +kernel
theorem dX12_endAt_1 : decode cX12_endAt 1 = .ok (.aload_n 0, 1) := by decide +kernel
theorem dX12_endAt_2 : decode cX12_endAt 2 = .ok (.getfield 184, 3) := by decide +kernel
theorem dX12_endAt_5 : decode cX12_endAt 5 = .ok (.if_icmp .ge 18, 3) := by decide +kernel
theorem dX12_endAt_8 : decode cX12_endAt 8 = .ok (.aload_n 0, 1) := by decide +kernel
theorem dX12_endAt_9 : decode cX12_endAt 9 = .ok (.getfield 187, 3) := by decide +kernel
theorem dX12_endAt_12 : decode cX12_endAt 12 = .ok (.iload_n 1, 1) := by decide +kernel
theorem dX12_endAt_13 : decode cX12_endAt 13 = .ok (.iaload, 1) := by decide +kernel
theorem dX12_endAt_14 : decode cX12_endAt 14 = .ok (.bipush 10, 2) := by decide +kernel
theorem dX12_endAt_16 : decode cX12_endAt 16 = .ok (.if_icmp .ne 7, 3) := by decide +kernel
theorem dX12_endAt_19 : decode cX12_endAt 19 = .ok (.iconst 1, 1) := by decide +kernel
theorem dX12_endAt_20 : decode cX12_endAt 20 = .ok (.goto 42, 3) := by decide +kernel
def fb_X12_endAt_23  (x1 : Int32) (s : uS) : Option Int32 := if (s.I 1079 29) ≤ (x1 + 1) then (some (0 : Int32)) else ((iget 20 s 1096 x1).bind fun v2 => if v2 = 13 then ((iget 20 s 1096 (x1 + 1)).bind fun v5 => if v5 = 10 then (some (2 : Int32)) else (some (0 : Int32))) else (some (0 : Int32)))
set_option maxRecDepth 100000 in
set_option maxHeartbeats 4000000 in
theorem xb_X12_endAt_23 {l : Launch} {D : va_G} {A : Nat → ClassId} {B : Nat} {Z : State → Heap → Prop} {vF : Value} (uk : uK B Z vF)   {x1 : Int32} {s : uS} {r : Int32}  (h : fb_X12_endAt_23  x1 s = some r) : GU l D A B Z mX12_endAt 0 (s, some (.int r)) s 23 [(0, .ref (B + 1079)), (1, .int x1)] [] := by
  unfold fb_X12_endAt_23 at h
  refine uu_iload_n dX12_endAt_23 rfl (List.mem_of_getElem? (i := 1) rfl) ?_
  refine uu_iconst (v := 1) dX12_endAt_24 (by decide) ?_
  refine uu_iadd dX12_endAt_25 ?_
  refine uu_aload_n dX12_endAt_26 rfl (List.mem_of_getElem? (i := 0) rfl) ?_
  refine uu_geti (ci := 12) (N := 153) fX12_184 (by decide) so_1079.is (by decide) (by decide) dX12_endAt_27 ?_
  refine uu_icmp_ge (tgt := 61) dX12_endAt_30 (by decide) (fun c1 => ?_) (fun c1 => ?_)
  · replace h := uu_pos c1 h
    refine uu_iconst (v := 0) dX12_endAt_61 (by decide) ?_
    have hr := Option.some.inj h
    subst hr
    exact uu_iret rfl dX12_endAt_62
  · replace h := uu_neg c1 h
    refine uu_aload_n dX12_endAt_33 rfl (List.mem_of_getElem? (i := 0) rfl) ?_
    refine uu_geta (ci := 12) (N := 153) fX12_187 (by decide) so_1079.is (by decide) (c := 1096) (by decide) dX12_endAt_34 ?_
    refine uu_iload_n dX12_endAt_37 rfl (List.mem_of_getElem? (i := 1) rfl) ?_
    obtain ⟨v2, e3, h⟩ := uu_ob h
    refine uu_iald e3 dX12_endAt_38 ?_
    refine uu_bipush (v := 13) dX12_endAt_39 (by decide) ?_
    refine uu_icmp_ne (tgt := 61) dX12_endAt_41 (by decide) (fun c4 => ?_) (fun c4 => ?_)
    · replace h := uu_neg c4 h
      refine uu_iconst (v := 0) dX12_endAt_61 (by decide) ?_
      have hr := Option.some.inj h
      subst hr
      exact uu_iret rfl dX12_endAt_62
    · replace h := uu_pos c4 h
      refine uu_aload_n dX12_endAt_44 rfl (List.mem_of_getElem? (i := 0) rfl) ?_
      refine uu_geta (ci := 12) (N := 153) fX12_187 (by decide) so_1079.is (by decide) (c := 1096) (by decide) dX12_endAt_45 ?_
      refine uu_iload_n dX12_endAt_48 rfl (List.mem_of_getElem? (i := 1) rfl) ?_
      refine uu_iconst (v := 1) dX12_endAt_49 (by decide) ?_
      refine uu_iadd dX12_endAt_50 ?_
      obtain ⟨v5, e6, h⟩ := uu_ob h
      refine uu_iald e6 dX12_endAt_51 ?_
      refine uu_bipush (v := 10) dX12_endAt_52 (by decide) ?_
      refine uu_icmp_ne (tgt := 61) dX12_endAt_54 (by decide) (fun c7 => ?_) (fun c7 => ?_)
      · replace h := uu_neg c7 h
        refine uu_iconst (v := 0) dX12_endAt_61 (by decide) ?_
        have hr := Option.some.inj h
        subst hr
        exact uu_iret rfl dX12_endAt_62
      · replace h := uu_pos c7 h
        refine uu_iconst (v := 2) dX12_endAt_57 (by decide) ?_
        refine uu_goto (tgt := 62) dX12_endAt_58 (by decide) ?_
        have hr := Option.some.inj h
        subst hr
        exact uu_iret rfl dX12_endAt_62
def fn_X12_endAt (x1 : Int32) (s : uS) : Option Int32 := if (s.I 1079 29) ≤ x1 then (fb_X12_endAt_23 x1 s) else ((iget 20 s 1096 x1).bind fun v2 => if v2 = 10 then (some (1 : Int32)) else (fb_X12_endAt_23 x1 s))
set_option maxRecDepth 100000 in
set_option maxHeartbeats 4000000 in
theorem xc_X12_endAt {l : Launch} {D : va_G} {A : Nat → ClassId} {B : Nat} {Z : State → Heap → Prop} {vF : Value} (uk : uK B Z vF) {x1 : Int32} {s : uS} {r : Int32}  (h : fn_X12_endAt x1 s = some r) : CU l D A B Z 0 mX12_endAt s [.ref (B + 1079), .int x1] (s, some (.int r)) := by
  unfold fn_X12_endAt at h
  refine cu_of rfl uk.1.1 (Nat.le_of_ble_eq_true rfl) ?_
  show GU _ _ _ _ _ _ _ _ _ 0 [(0, .ref (B + 1079)), (1, .int x1)] []
  refine uu_iload_n dX12_endAt_0 rfl (List.mem_of_getElem? (i := 1) rfl) ?_
  refine uu_aload_n dX12_endAt_1 rfl (List.mem_of_getElem? (i := 0) rfl) ?_
  refine uu_geti (ci := 12) (N := 153) fX12_184 (by decide) so_1079.is (by decide) (by decide) dX12_endAt_2 ?_
  refine uu_icmp_ge (tgt := 23) dX12_endAt_5 (by decide) (fun c1 => ?_) (fun c1 => ?_)
  · replace h := uu_pos c1 h
    exact xb_X12_endAt_23 uk  h
  · replace h := uu_neg c1 h
    refine uu_aload_n dX12_endAt_8 rfl (List.mem_of_getElem? (i := 0) rfl) ?_
    refine uu_geta (ci := 12) (N := 153) fX12_187 (by decide) so_1079.is (by decide) (c := 1096) (by decide) dX12_endAt_9 ?_
    refine uu_iload_n dX12_endAt_12 rfl (List.mem_of_getElem? (i := 1) rfl) ?_
    obtain ⟨v2, e3, h⟩ := uu_ob h
    refine uu_iald e3 dX12_endAt_13 ?_
    refine uu_bipush (v := 10) dX12_endAt_14 (by decide) ?_
    refine uu_icmp_ne (tgt := 23) dX12_endAt_16 (by decide) (fun c4 => ?_) (fun c4 => ?_)
    · replace h := uu_neg c4 h
      exact xb_X12_endAt_23 uk  h
    · replace h := uu_pos c4 h
      refine uu_iconst (v := 1) dX12_endAt_19 (by decide) ?_
      refine uu_goto (tgt := 62) dX12_endAt_20 (by decide) ?_
      have hr := Option.some.inj h
      subst hr
      exact uu_iret rfl dX12_endAt_62
abbrev mX12_lines : hM := (yX12_lines, cX12_lines, 3, (some (.int)))
theorem dX12_lines_30 : decode cX12_lines 30 = .ok (.aload_n 0, 1) := by decide +kernel
theorem dX12_lines_31 : decode cX12_lines 31 = .ok (.aload_n 0, 1) := by decide +kernel
theorem dX12_lines_32 : decode cX12_lines 32 = .ok (.getfield 181, 3) := by decide +kernel
theorem dX12_lines_35 : decode cX12_lines 35 = .ok (.iconst 1, 1) := by decide +kernel
theorem dX12_lines_36 : decode cX12_lines 36 = .ok (.iadd, 1) := by decide +kernel
theorem dX12_lines_37 : decode cX12_lines 37 = .ok (.putfield 181, 3) := by decide +kernel
theorem dX12_lines_40 : decode cX12_lines 40 = .ok (.goto (-30), 3) := by decide +kernel
theorem dX12_lines_200 : decode cX12_lines 200 = .ok (.iload_n 2, 1) := by decide +kernel
theorem dX12_lines_201 : decode cX12_lines 201 = .ok (.iload_n 1, 1) := by decide +kernel
theorem dX12_lines_202 : decode cX12_lines 202 = .ok (.if_icmp .ge 36, 3) := by decide +kernel
theorem dX12_lines_238 : decode cX12_lines 238 = .ok (.goto (-157), 3) := by decide +kernel
theorem dX12_lines_205 : decode cX12_lines 205 = .ok (.aload_n 0, 1) := by decide +kernel
theorem dX12_lines_206 : decode cX12_lines 206 = .ok (.aload_n 0, 1) := by decide +kernel
theorem dX12_lines_207 : decode cX12_lines 207 = .ok (.iconst 0, 1) := by decide +kernel
theorem dX12_lines_208 : decode cX12_lines 208 = .ok (.invokevirtual 190, 3) := by decide +kernel
theorem dX12_lines_211 : decode cX12_lines 211 = .ok (.sipush 1000, 3) := by decide +kernel
theorem dX12_lines_214 : decode cX12_lines 214 = .ok (.invokevirtual 263, 3) := by decide +kernel
theorem dX12_lines_217 : decode cX12_lines 217 = .ok (.ifCond .ne 5, 3) := by decide +kernel
theorem dX12_lines_222 : decode cX12_lines 222 = .ok (.aload_n 0, 1) := by decide +kernel
theorem dX12_lines_223 : decode cX12_lines 223 = .ok (.aload_n 0, 1) := by decide +kernel
theorem dX12_lines_224 : decode cX12_lines 224 = .ok (.getfield 181, 3) := by decide +kernel
theorem dX12_lines_227 : decode cX12_lines 227 = .ok (.iconst 1, 1) := by decide +kernel
theorem dX12_lines_228 : decode cX12_lines 228 = .ok (.iadd, 1) := by decide +kernel
theorem dX12_lines_229 : decode cX12_lines 229 = .ok (.putfield 181, 3) := by decide +kernel
theorem dX12_lines_232 : decode cX12_lines 232 = .ok (.iinc 2 1, 3) := by decide +kernel
theorem dX12_lines_235 : decode cX12_lines 235 = .ok (.goto (-35), 3) := by decide +kernel
theorem dX12_lines_220 : decode cX12_lines 220 = .ok (.iconst 5, 1) := by decide +kernel
theorem dX12_lines_221 : decode cX12_lines 221 = .ok (.ireturn, 1) := by decide +kernel
theorem dX12_lines_183 : decode cX12_lines 183 = .ok (.aload_n 0, 1) := by decide +kernel
theorem dX12_lines_184 : decode cX12_lines 184 = .ok (.aload_n 0, 1) := by decide +kernel
theorem dX12_lines_185 : decode cX12_lines 185 = .ok (.getfield 181, 3) := by decide +kernel
theorem kX12_endAt : h_ml mX12_endAt 1 := ⟨h_t8 109 rfl rfl, h_t1 16 rfl rfl, ⟨by decide, by decide, by decide +kernel⟩, by decide⟩
theorem lX12_270 : Cond.methodLink RX12 270 mX12_endAt.1 ∈ lw_g := h_t8 106 rfl rfl
theorem sX12_endAt : Cond.instanceMethod mX12_endAt.1 ∈ lw_g ∧ Cond.selects mX12_endAt.1.cls mX12_endAt.1 mX12_endAt.1 ∈ lw_g := ⟨h_t8 108 rfl rfl, h_ins 127 rfl⟩
theorem dX12_lines_188 : decode cX12_lines 188 = .ok (.invokevirtual 270, 3) := by decide +kernel
theorem dX12_lines_191 : decode cX12_lines 191 = .ok (.istore_n 1, 1) := by decide +kernel
theorem dX12_lines_192 : decode cX12_lines 192 = .ok (.iload_n 1, 1) := by decide +kernel
theorem dX12_lines_193 : decode cX12_lines 193 = .ok (.ifCond .ne 5, 3) := by decide +kernel
theorem dX12_lines_198 : decode cX12_lines 198 = .ok (.iconst 0, 1) := by decide +kernel
theorem dX12_lines_199 : decode cX12_lines 199 = .ok (.istore_n 2, 1) := by decide +kernel
theorem dX12_lines_196 : decode cX12_lines 196 = .ok (.iconst 5, 1) := by decide +kernel
theorem dX12_lines_197 : decode cX12_lines 197 = .ok (.ireturn, 1) := by decide +kernel
theorem dX12_lines_134 : decode cX12_lines 134 = .ok (.aload_n 0, 1) := by decide +kernel
theorem dX12_lines_135 : decode cX12_lines 135 = .ok (.iconst 0, 1) := by decide +kernel
theorem dX12_lines_136 : decode cX12_lines 136 = .ok (.invokevirtual 190, 3) := by decide +kernel
theorem dX12_lines_139 : decode cX12_lines 139 = .ok (.ifCond .lt 44, 3) := by decide +kernel
theorem dX12_lines_142 : decode cX12_lines 142 = .ok (.aload_n 0, 1) := by decide +kernel
theorem dX12_lines_143 : decode cX12_lines 143 = .ok (.aload_n 0, 1) := by decide +kernel
theorem dX12_lines_144 : decode cX12_lines 144 = .ok (.getfield 181, 3) := by decide +kernel
theorem dX12_lines_147 : decode cX12_lines 147 = .ok (.invokevirtual 270, 3) := by decide +kernel
theorem dX12_lines_150 : decode cX12_lines 150 = .ok (.ifCond .ne 33, 3) := by decide +kernel
theorem dX12_lines_153 : decode cX12_lines 153 = .ok (.aload_n 0, 1) := by decide +kernel
theorem dX12_lines_154 : decode cX12_lines 154 = .ok (.aload_n 0, 1) := by decide +kernel
theorem dX12_lines_155 : decode cX12_lines 155 = .ok (.iconst 0, 1) := by decide +kernel
theorem dX12_lines_156 : decode cX12_lines 156 = .ok (.invokevirtual 190, 3) := by decide +kernel
theorem dX12_lines_159 : decode cX12_lines 159 = .ok (.sipush 1000, 3) := by decide +kernel
theorem dX12_lines_162 : decode cX12_lines 162 = .ok (.invokevirtual 263, 3) := by decide +kernel
theorem dX12_lines_165 : decode cX12_lines 165 = .ok (.ifCond .ne 5, 3) := by decide +kernel
theorem dX12_lines_170 : decode cX12_lines 170 = .ok (.aload_n 0, 1) := by decide +kernel
theorem dX12_lines_171 : decode cX12_lines 171 = .ok (.aload_n 0, 1) := by decide +kernel
theorem dX12_lines_172 : decode cX12_lines 172 = .ok (.getfield 181, 3) := by decide +kernel
theorem dX12_lines_175 : decode cX12_lines 175 = .ok (.iconst 1, 1) := by decide +kernel
theorem dX12_lines_176 : decode cX12_lines 176 = .ok (.iadd, 1) := by decide +kernel
theorem dX12_lines_177 : decode cX12_lines 177 = .ok (.putfield 181, 3) := by decide +kernel
theorem dX12_lines_180 : decode cX12_lines 180 = .ok (.goto (-46), 3) := by decide +kernel
theorem dX12_lines_168 : decode cX12_lines 168 = .ok (.iconst 5, 1) := by decide +kernel
theorem dX12_lines_169 : decode cX12_lines 169 = .ok (.ireturn, 1) := by decide +kernel
theorem dX12_lines_104 : decode cX12_lines 104 = .ok (.aload_n 0, 1) := by decide +kernel
theorem dX12_lines_105 : decode cX12_lines 105 = .ok (.iconst 0, 1) := by decide +kernel
theorem dX12_lines_106 : decode cX12_lines 106 = .ok (.invokevirtual 190, 3) := by decide +kernel
theorem dX12_lines_109 : decode cX12_lines 109 = .ok (.bipush 46, 2) := by decide +kernel
theorem dX12_lines_111 : decode cX12_lines 111 = .ok (.if_icmp .ne 23, 3) := by decide +kernel
theorem dX12_lines_114 : decode cX12_lines 114 = .ok (.aload_n 0, 1) := by decide +kernel
theorem dX12_lines_115 : decode cX12_lines 115 = .ok (.iconst 1, 1) := by decide +kernel
theorem dX12_lines_116 : decode cX12_lines 116 = .ok (.invokevirtual 190, 3) := by decide +kernel
theorem dX12_lines_119 : decode cX12_lines 119 = .ok (.bipush 46, 2) := by decide +kernel
theorem dX12_lines_121 : decode cX12_lines 121 = .ok (.if_icmp .ne 13, 3) := by decide +kernel
theorem dX12_lines_124 : decode cX12_lines 124 = .ok (.aload_n 0, 1) := by decide +kernel
theorem dX12_lines_125 : decode cX12_lines 125 = .ok (.aload_n 0, 1) := by decide +kernel
theorem dX12_lines_126 : decode cX12_lines 126 = .ok (.getfield 181, 3) := by decide +kernel
theorem dX12_lines_129 : decode cX12_lines 129 = .ok (.iconst 1, 1) := by decide +kernel
theorem dX12_lines_130 : decode cX12_lines 130 = .ok (.iadd, 1) := by decide +kernel
theorem dX12_lines_131 : decode cX12_lines 131 = .ok (.putfield 181, 3) := by decide +kernel
theorem dX12_lines_81 : decode cX12_lines 81 = .ok (.aload_n 0, 1) := by decide +kernel
theorem dX12_lines_82 : decode cX12_lines 82 = .ok (.iconst 0, 1) := by decide +kernel
theorem dX12_lines_83 : decode cX12_lines 83 = .ok (.invokevirtual 190, 3) := by decide +kernel
theorem dX12_lines_86 : decode cX12_lines 86 = .ok (.bipush 46, 2) := by decide +kernel
theorem dX12_lines_88 : decode cX12_lines 88 = .ok (.if_icmp .ne 16, 3) := by decide +kernel
theorem dX12_lines_91 : decode cX12_lines 91 = .ok (.aload_n 0, 1) := by decide +kernel
theorem dX12_lines_92 : decode cX12_lines 92 = .ok (.aload_n 0, 1) := by decide +kernel
theorem dX12_lines_93 : decode cX12_lines 93 = .ok (.getfield 181, 3) := by decide +kernel
theorem dX12_lines_96 : decode cX12_lines 96 = .ok (.iconst 1, 1) := by decide +kernel
theorem dX12_lines_97 : decode cX12_lines 97 = .ok (.iadd, 1) := by decide +kernel
theorem dX12_lines_98 : decode cX12_lines 98 = .ok (.invokevirtual 270, 3) := by decide +kernel
theorem dX12_lines_101 : decode cX12_lines 101 = .ok (.ifCond .gt 140, 3) := by decide +kernel
theorem dX12_lines_241 : decode cX12_lines 241 = .ok (.aload_n 0, 1) := by decide +kernel
theorem dX12_lines_242 : decode cX12_lines 242 = .ok (.aload_n 0, 1) := by decide +kernel
theorem dX12_lines_243 : decode cX12_lines 243 = .ok (.getfield 181, 3) := by decide +kernel
theorem dX12_lines_246 : decode cX12_lines 246 = .ok (.iconst 1, 1) := by decide +kernel
theorem dX12_lines_247 : decode cX12_lines 247 = .ok (.iadd, 1) := by decide +kernel
theorem dX12_lines_248 : decode cX12_lines 248 = .ok (.aload_n 0, 1) := by decide +kernel
theorem dX12_lines_249 : decode cX12_lines 249 = .ok (.aload_n 0, 1) := by decide +kernel
theorem dX12_lines_250 : decode cX12_lines 250 = .ok (.getfield 181, 3) := by decide +kernel
theorem dX12_lines_253 : decode cX12_lines 253 = .ok (.iconst 1, 1) := by decide +kernel
theorem dX12_lines_254 : decode cX12_lines 254 = .ok (.iadd, 1) := by decide +kernel
theorem dX12_lines_255 : decode cX12_lines 255 = .ok (.invokevirtual 270, 3) := by decide +kernel
theorem dX12_lines_258 : decode cX12_lines 258 = .ok (.iadd, 1) := by decide +kernel
theorem dX12_lines_259 : decode cX12_lines 259 = .ok (.putfield 181, 3) := by decide +kernel
theorem dX12_lines_262 : decode cX12_lines 262 = .ok (.aload_n 0, 1) := by decide +kernel
theorem dX12_lines_263 : decode cX12_lines 263 = .ok (.aload_n 0, 1) := by decide +kernel
theorem dX12_lines_264 : decode cX12_lines 264 = .ok (.getfield 254, 3) := by decide +kernel
theorem dX12_lines_267 : decode cX12_lines 267 = .ok (.aload_n 0, 1) := by decide +kernel
theorem dX12_lines_268 : decode cX12_lines 268 = .ok (.getfield 257, 3) := by decide +kernel
theorem dX12_lines_271 : decode cX12_lines 271 = .ok (.isub, 1) := by decide +kernel
theorem dX12_lines_272 : decode cX12_lines 272 = .ok (.putfield 267, 3) := by decide +kernel
theorem dX12_lines_275 : decode cX12_lines 275 = .ok (.iconst 4, 1) := by decide +kernel
theorem dX12_lines_276 : decode cX12_lines 276 = .ok (.ireturn, 1) := by decide +kernel
theorem dX12_lines_10 : decode cX12_lines 10 = .ok (.aload_n 0, 1) := by decide +kernel
theorem dX12_lines_11 : decode cX12_lines 11 = .ok (.iconst 0, 1) := by decide +kernel
theorem dX12_lines_12 : decode cX12_lines 12 = .ok (.invokevirtual 190, 3) := by decide +kernel
theorem dX12_lines_15 : decode cX12_lines 15 = .ok (.bipush 32, 2) := by decide +kernel
theorem dX12_lines_17 : decode cX12_lines 17 = .ok (.if_icmp .eq 13, 3) := by decide +kernel
theorem dX12_lines_20 : decode cX12_lines 20 = .ok (.aload_n 0, 1) := by decide +kernel
theorem dX12_lines_21 : decode cX12_lines 21 = .ok (.iconst 0, 1) := by decide +kernel
theorem dX12_lines_22 : decode cX12_lines 22 = .ok (.invokevirtual 190, 3) := by decide +kernel
theorem dX12_lines_25 : decode cX12_lines 25 = .ok (.bipush 9, 2) := by decide +kernel
theorem dX12_lines_27 : decode cX12_lines 27 = .ok (.if_icmp .ne 16, 3) := by decide +kernel
theorem dX12_lines_43 : decode cX12_lines 43 = .ok (.aload_n 0, 1) := by decide +kernel
theorem dX12_lines_44 : decode cX12_lines 44 = .ok (.aload_n 0, 1) := by decide +kernel
theorem dX12_lines_45 : decode cX12_lines 45 = .ok (.getfield 181, 3) := by decide +kernel
theorem dX12_lines_48 : decode cX12_lines 48 = .ok (.invokevirtual 270, 3) := by decide +kernel
theorem dX12_lines_51 : decode cX12_lines 51 = .ok (.ifCond .ne 5, 3) := by decide +kernel
theorem dX12_lines_56 : decode cX12_lines 56 = .ok (.aload_n 0, 1) := by decide +kernel
theorem dX12_lines_57 : decode cX12_lines 57 = .ok (.aload_n 0, 1) := by decide +kernel
theorem dX12_lines_58 : decode cX12_lines 58 = .ok (.getfield 181, 3) := by decide +kernel
theorem dX12_lines_61 : decode cX12_lines 61 = .ok (.aload_n 0, 1) := by decide +kernel
theorem dX12_lines_62 : decode cX12_lines 62 = .ok (.aload_n 0, 1) := by decide +kernel
theorem dX12_lines_63 : decode cX12_lines 63 = .ok (.getfield 181, 3) := by decide +kernel
theorem dX12_lines_66 : decode cX12_lines 66 = .ok (.invokevirtual 270, 3) := by decide +kernel
theorem dX12_lines_69 : decode cX12_lines 69 = .ok (.iadd, 1) := by decide +kernel
theorem dX12_lines_70 : decode cX12_lines 70 = .ok (.putfield 181, 3) := by decide +kernel
theorem dX12_lines_73 : decode cX12_lines 73 = .ok (.aload_n 0, 1) := by decide +kernel
theorem dX12_lines_74 : decode cX12_lines 74 = .ok (.aload_n 0, 1) := by decide +kernel
theorem dX12_lines_75 : decode cX12_lines 75 = .ok (.getfield 254, 3) := by decide +kernel
theorem dX12_lines_78 : decode cX12_lines 78 = .ok (.putfield 257, 3) := by decide +kernel
theorem dX12_lines_54 : decode cX12_lines 54 = .ok (.iconst 5, 1) := by decide +kernel
theorem dX12_lines_55 : decode cX12_lines 55 = .ok (.ireturn, 1) := by decide +kernel
theorem dX12_lines_0 : decode cX12_lines 0 = .ok (.aload_n 0, 1) := by decide +kernel
theorem dX12_lines_1 : decode cX12_lines 1 = .ok (.aload_n 0, 1) := by decide +kernel
theorem dX12_lines_2 : decode cX12_lines 2 = .ok (.getfield 181, 3) := by decide +kernel
theorem dX12_lines_5 : decode cX12_lines 5 = .ok (.iconst 1, 1) := by decide +kernel
theorem dX12_lines_6 : decode cX12_lines 6 = .ok (.iadd, 1) := by decide +kernel
theorem dX12_lines_7 : decode cX12_lines 7 = .ok (.putfield 181, 3) := by decide +kernel
def fb_X12_lines_30 (K10 : uS → Option (uS × Int32))  (s : uS) : Option (uS × Int32) := K10 (wI s 1079 30 ((s.I 1079 30) + 1))
set_option maxRecDepth 100000 in
set_option maxHeartbeats 4000000 in
theorem xb_X12_lines_30 {l : Launch} {D : va_G} {A : Nat → ClassId} {B : Nat} {Z : State → Heap → Prop} {vF : Value} (uk : uK B Z vF) {K10 : uS → Option (uS × Int32)} (hK10 : ∀   (s : uS) (r : (uS × Int32)), K10  s = some r → GU l D A B Z mX12_lines 1 (r.1, some (.int r.2)) s 10 [(0, .ref (B + 1079))] [])  {s : uS} {r : (uS × Int32)}  (h : fb_X12_lines_30 K10  s = some r) : GU l D A B Z mX12_lines 1 (r.1, some (.int r.2)) s 30 [(0, .ref (B + 1079))] [] := by
  unfold fb_X12_lines_30 at h
  refine uu_aload_n dX12_lines_30 rfl (List.mem_of_getElem? (i := 0) rfl) ?_
  refine uu_aload_n dX12_lines_31 rfl (List.mem_of_getElem? (i := 0) rfl) ?_
  refine uu_geti (ci := 12) (N := 153) fX12_181 (by decide) so_1079.is (by decide) (by decide) dX12_lines_32 ?_
  refine uu_iconst (v := 1) dX12_lines_35 (by decide) ?_
  refine uu_iadd dX12_lines_36 ?_
  refine uu_puti (ft := .int) (ci := 12) (N := 153) fX12_181 ptX12 (Or.inl rfl) (by decide) so_1079.is (by decide) (by decide) (by decide +kernel) rfl rfl dX12_lines_37 ?_
  refine uu_goto (tgt := 10) dX12_lines_40 (by decide) ?_
  exact hK10  _ _ h
def fb_X12_lines_200 (K81 : uS → Option (uS × Int32)) (K200 : Int32 → Int32 → uS → Option (uS × Int32)) (x1 : Int32) (x2 : Int32) (s : uS) : Option (uS × Int32) := if x1 ≤ x2 then (K81 s) else ((fn_X12_peek 0 s).bind fun v2 => (fn_X12_into v2 1000 s).bind fun r4 => if r4.2 = true then (K200 x1 (x2 + 1) (wI r4.1 1079 30 ((r4.1.I 1079 30) + 1))) else (some (r4.1, (5 : Int32))))
set_option maxRecDepth 100000 in
set_option maxHeartbeats 4000000 in
theorem xb_X12_lines_200 {l : Launch} {D : va_G} {A : Nat → ClassId} {B : Nat} {Z : State → Heap → Prop} {vF : Value} (uk : uK B Z vF) {K81 : uS → Option (uS × Int32)} {K200 : Int32 → Int32 → uS → Option (uS × Int32)} (hK81 : ∀   (s : uS) (r : (uS × Int32)), K81  s = some r → GU l D A B Z mX12_lines 1 (r.1, some (.int r.2)) s 81 [(0, .ref (B + 1079))] []) (hK200 : ∀ (x1 : Int32) (x2 : Int32)  (s : uS) (r : (uS × Int32)), K200 x1 x2 s = some r → GU l D A B Z mX12_lines 1 (r.1, some (.int r.2)) s 200 [(0, .ref (B + 1079)), (1, .int x1), (2, .int x2)] []) {x1 : Int32} {x2 : Int32} {s : uS} {r : (uS × Int32)}  (h : fb_X12_lines_200 K81 K200 x1 x2 s = some r) : GU l D A B Z mX12_lines 1 (r.1, some (.int r.2)) s 200 [(0, .ref (B + 1079)), (1, .int x1), (2, .int x2)] [] := by
  unfold fb_X12_lines_200 at h
  refine uu_iload_n dX12_lines_200 rfl (List.mem_of_getElem? (i := 2) rfl) ?_
  refine uu_iload_n dX12_lines_201 rfl (List.mem_of_getElem? (i := 1) rfl) ?_
  refine uu_icmp_ge (tgt := 238) dX12_lines_202 (by decide) (fun c1 => ?_) (fun c1 => ?_)
  · replace h := uu_pos c1 h
    refine uu_goto (tgt := 81) dX12_lines_238 (by decide) ?_
    refine uu_lv [0] (lv' := [(0, .ref (B + 1079))]) rfl ?_
    exact hK81  _ _ h
  · replace h := uu_neg c1 h
    refine uu_aload_n dX12_lines_205 rfl (List.mem_of_getElem? (i := 0) rfl) ?_
    refine uu_aload_n dX12_lines_206 rfl (List.mem_of_getElem? (i := 0) rfl) ?_
    refine uu_iconst (v := 0) dX12_lines_207 (by decide) ?_
    obtain ⟨v2, e3, h⟩ := uu_ob h
    refine uu_cv (d1 := 0) (k := 1079) (ci := 12) (T := TX12) (N := 153) (As := [.int 0]) (st := [.ref (B + 1079)]) (st' := [.int v2, .ref (B + 1079)]) (xc_X12_peek uk  e3) so_1079.is (by decide) rfl kX12_peek lX12_190 sX12_peek (by decide) (Nat.le_of_ble_eq_true rfl) dX12_lines_208 rfl ?_
    refine uu_sipush (v := 1000) dX12_lines_211 (by decide) ?_
    obtain ⟨r4, e5, h⟩ := uu_ob h
    refine uu_cv (d1 := 0) (k := 1079) (ci := 12) (T := TX12) (N := 153) (As := [.int v2, .int 1000]) (st := []) (st' := [.int (bI r4.2)]) (xc_X12_into uk  e5) so_1079.is (by decide) rfl kX12_into lX12_263 sX12_into (by decide) (Nat.le_of_ble_eq_true rfl) dX12_lines_214 rfl ?_
    refine uu_ifb_ne (tgt := 222) dX12_lines_217 (by decide) (fun c6 => ?_) (fun c6 => ?_)
    · replace h := uu_pos c6 h
      refine uu_aload_n dX12_lines_222 rfl (List.mem_of_getElem? (i := 0) rfl) ?_
      refine uu_aload_n dX12_lines_223 rfl (List.mem_of_getElem? (i := 0) rfl) ?_
      refine uu_geti (ci := 12) (N := 153) fX12_181 (by decide) so_1079.is (by decide) (by decide) dX12_lines_224 ?_
      refine uu_iconst (v := 1) dX12_lines_227 (by decide) ?_
      refine uu_iadd dX12_lines_228 ?_
      refine uu_puti (ft := .int) (ci := 12) (N := 153) fX12_181 ptX12 (Or.inl rfl) (by decide) so_1079.is (by decide) (by decide) (by decide +kernel) rfl rfl dX12_lines_229 ?_
      refine uu_iinc (v := x2 + 1) dX12_lines_232 (k := 2) rfl rfl (by decide) rfl ?_
      refine uu_goto (tgt := 200) dX12_lines_235 (by decide) ?_
      refine uu_lv [1, 2, 0] (lv' := [(0, .ref (B + 1079)), (1, .int x1), (2, .int (x2 + 1))]) rfl ?_
      exact hK200 x1 (x2 + 1) _ _ h
    · replace h := uu_neg c6 h
      refine uu_iconst (v := 5) dX12_lines_220 (by decide) ?_
      have hr := Option.some.inj h
      subst hr
      exact uu_iret rfl dX12_lines_221
def fn_X12_lines_200 (K81 : uS → Option (uS × Int32)) : Nat → Int32 → Int32 → uS → Option (uS × Int32)
  | 0 => fun _ _ _ => none
  | n + 1 => fb_X12_lines_200 K81 (fn_X12_lines_200 K81 n)
set_option maxRecDepth 100000 in
set_option maxHeartbeats 4000000 in
theorem xn_X12_lines_200 {l : Launch} {D : va_G} {A : Nat → ClassId} {B : Nat} {Z : State → Heap → Prop} {vF : Value} (uk : uK B Z vF) {K81 : uS → Option (uS × Int32)} (hK81 : ∀   (s : uS) (r : (uS × Int32)), K81  s = some r → GU l D A B Z mX12_lines 1 (r.1, some (.int r.2)) s 81 [(0, .ref (B + 1079))] []) : ∀ (n : Nat) (x1 : Int32) (x2 : Int32)  (s : uS) (r : (uS × Int32)), fn_X12_lines_200 K81 n x1 x2 s = some r → GU l D A B Z mX12_lines 1 (r.1, some (.int r.2)) s 200 [(0, .ref (B + 1079)), (1, .int x1), (2, .int x2)] [] := by
  intro n
  induction n with
  | zero => intro x1 x2 s r h
            cases h
  | succ n ih => intro x1 x2 s r h
                 exact xb_X12_lines_200 uk hK81 ih  h
def fb_X12_lines_183 (K81 : uS → Option (uS × Int32))  (s : uS) : Option (uS × Int32) := (fn_X12_endAt (s.I 1079 30) s).bind fun v1 => if v1 = 0 then (some (s, (5 : Int32))) else (fn_X12_lines_200 K81 uFu v1 0 s)
set_option maxRecDepth 100000 in
set_option maxHeartbeats 4000000 in
theorem xb_X12_lines_183 {l : Launch} {D : va_G} {A : Nat → ClassId} {B : Nat} {Z : State → Heap → Prop} {vF : Value} (uk : uK B Z vF) {K81 : uS → Option (uS × Int32)} (hK81 : ∀   (s : uS) (r : (uS × Int32)), K81  s = some r → GU l D A B Z mX12_lines 1 (r.1, some (.int r.2)) s 81 [(0, .ref (B + 1079))] [])  {s : uS} {r : (uS × Int32)}  (h : fb_X12_lines_183 K81  s = some r) : GU l D A B Z mX12_lines 1 (r.1, some (.int r.2)) s 183 [(0, .ref (B + 1079))] [] := by
  unfold fb_X12_lines_183 at h
  refine uu_aload_n dX12_lines_183 rfl (List.mem_of_getElem? (i := 0) rfl) ?_
  refine uu_aload_n dX12_lines_184 rfl (List.mem_of_getElem? (i := 0) rfl) ?_
  refine uu_geti (ci := 12) (N := 153) fX12_181 (by decide) so_1079.is (by decide) (by decide) dX12_lines_185 ?_
  obtain ⟨v1, e2, h⟩ := uu_ob h
  refine uu_cv (d1 := 0) (k := 1079) (ci := 12) (T := TX12) (N := 153) (As := [.int (s.I 1079 30)]) (st := []) (st' := [.int v1]) (xc_X12_endAt uk  e2) so_1079.is (by decide) rfl kX12_endAt lX12_270 sX12_endAt (by decide) (Nat.le_of_ble_eq_true rfl) dX12_lines_188 rfl ?_
  refine uu_istore_n dX12_lines_191 rfl (by decide) rfl ?_
  refine uu_iload_n dX12_lines_192 rfl (List.mem_of_getElem? (i := 0) rfl) ?_
  refine uu_if_ne (tgt := 198) dX12_lines_193 (by decide) (fun c3 => ?_) (fun c3 => ?_)
  · replace h := uu_neg c3 h
    refine uu_iconst (v := 0) dX12_lines_198 (by decide) ?_
    refine uu_istore_n dX12_lines_199 rfl (by decide) rfl ?_
    refine uu_lv [2, 1, 0] (lv' := [(0, .ref (B + 1079)), (1, .int v1), (2, .int 0)]) rfl ?_
    exact xn_X12_lines_200 uk hK81 _ _ _ _ _ h
  · replace h := uu_pos c3 h
    refine uu_iconst (v := 5) dX12_lines_196 (by decide) ?_
    have hr := Option.some.inj h
    subst hr
    exact uu_iret rfl dX12_lines_197
def fb_X12_lines_134 (K81 : uS → Option (uS × Int32)) (K134 : uS → Option (uS × Int32))  (s : uS) : Option (uS × Int32) := (fn_X12_peek 0 s).bind fun v1 => if v1 < 0 then (fb_X12_lines_183 K81 s) else ((fn_X12_endAt (s.I 1079 30) s).bind fun v4 => if v4 = 0 then ((fn_X12_peek 0 s).bind fun v7 => (fn_X12_into v7 1000 s).bind fun r9 => if r9.2 = true then (K134 (wI r9.1 1079 30 ((r9.1.I 1079 30) + 1))) else (some (r9.1, (5 : Int32)))) else (fb_X12_lines_183 K81 s))
set_option maxRecDepth 100000 in
set_option maxHeartbeats 4000000 in
theorem xb_X12_lines_134 {l : Launch} {D : va_G} {A : Nat → ClassId} {B : Nat} {Z : State → Heap → Prop} {vF : Value} (uk : uK B Z vF) {K81 : uS → Option (uS × Int32)} {K134 : uS → Option (uS × Int32)} (hK81 : ∀   (s : uS) (r : (uS × Int32)), K81  s = some r → GU l D A B Z mX12_lines 1 (r.1, some (.int r.2)) s 81 [(0, .ref (B + 1079))] []) (hK134 : ∀   (s : uS) (r : (uS × Int32)), K134  s = some r → GU l D A B Z mX12_lines 1 (r.1, some (.int r.2)) s 134 [(0, .ref (B + 1079))] [])  {s : uS} {r : (uS × Int32)}  (h : fb_X12_lines_134 K81 K134  s = some r) : GU l D A B Z mX12_lines 1 (r.1, some (.int r.2)) s 134 [(0, .ref (B + 1079))] [] := by
  unfold fb_X12_lines_134 at h
  refine uu_aload_n dX12_lines_134 rfl (List.mem_of_getElem? (i := 0) rfl) ?_
  refine uu_iconst (v := 0) dX12_lines_135 (by decide) ?_
  obtain ⟨v1, e2, h⟩ := uu_ob h
  refine uu_cv (d1 := 0) (k := 1079) (ci := 12) (T := TX12) (N := 153) (As := [.int 0]) (st := []) (st' := [.int v1]) (xc_X12_peek uk  e2) so_1079.is (by decide) rfl kX12_peek lX12_190 sX12_peek (by decide) (Nat.le_of_ble_eq_true rfl) dX12_lines_136 rfl ?_
  refine uu_if_lt (tgt := 183) dX12_lines_139 (by decide) (fun c3 => ?_) (fun c3 => ?_)
  · replace h := uu_pos c3 h
    exact xb_X12_lines_183 uk hK81 h
  · replace h := uu_neg c3 h
    refine uu_aload_n dX12_lines_142 rfl (List.mem_of_getElem? (i := 0) rfl) ?_
    refine uu_aload_n dX12_lines_143 rfl (List.mem_of_getElem? (i := 0) rfl) ?_
    refine uu_geti (ci := 12) (N := 153) fX12_181 (by decide) so_1079.is (by decide) (by decide) dX12_lines_144 ?_
    obtain ⟨v4, e5, h⟩ := uu_ob h
    refine uu_cv (d1 := 0) (k := 1079) (ci := 12) (T := TX12) (N := 153) (As := [.int (s.I 1079 30)]) (st := []) (st' := [.int v4]) (xc_X12_endAt uk  e5) so_1079.is (by decide) rfl kX12_endAt lX12_270 sX12_endAt (by decide) (Nat.le_of_ble_eq_true rfl) dX12_lines_147 rfl ?_
    refine uu_if_ne (tgt := 183) dX12_lines_150 (by decide) (fun c6 => ?_) (fun c6 => ?_)
    · replace h := uu_neg c6 h
      exact xb_X12_lines_183 uk hK81 h
    · replace h := uu_pos c6 h
      refine uu_aload_n dX12_lines_153 rfl (List.mem_of_getElem? (i := 0) rfl) ?_
      refine uu_aload_n dX12_lines_154 rfl (List.mem_of_getElem? (i := 0) rfl) ?_
      refine uu_iconst (v := 0) dX12_lines_155 (by decide) ?_
      obtain ⟨v7, e8, h⟩ := uu_ob h
      refine uu_cv (d1 := 0) (k := 1079) (ci := 12) (T := TX12) (N := 153) (As := [.int 0]) (st := [.ref (B + 1079)]) (st' := [.int v7, .ref (B + 1079)]) (xc_X12_peek uk  e8) so_1079.is (by decide) rfl kX12_peek lX12_190 sX12_peek (by decide) (Nat.le_of_ble_eq_true rfl) dX12_lines_156 rfl ?_
      refine uu_sipush (v := 1000) dX12_lines_159 (by decide) ?_
      obtain ⟨r9, e10, h⟩ := uu_ob h
      refine uu_cv (d1 := 0) (k := 1079) (ci := 12) (T := TX12) (N := 153) (As := [.int v7, .int 1000]) (st := []) (st' := [.int (bI r9.2)]) (xc_X12_into uk  e10) so_1079.is (by decide) rfl kX12_into lX12_263 sX12_into (by decide) (Nat.le_of_ble_eq_true rfl) dX12_lines_162 rfl ?_
      refine uu_ifb_ne (tgt := 170) dX12_lines_165 (by decide) (fun c11 => ?_) (fun c11 => ?_)
      · replace h := uu_pos c11 h
        refine uu_aload_n dX12_lines_170 rfl (List.mem_of_getElem? (i := 0) rfl) ?_
        refine uu_aload_n dX12_lines_171 rfl (List.mem_of_getElem? (i := 0) rfl) ?_
        refine uu_geti (ci := 12) (N := 153) fX12_181 (by decide) so_1079.is (by decide) (by decide) dX12_lines_172 ?_
        refine uu_iconst (v := 1) dX12_lines_175 (by decide) ?_
        refine uu_iadd dX12_lines_176 ?_
        refine uu_puti (ft := .int) (ci := 12) (N := 153) fX12_181 ptX12 (Or.inl rfl) (by decide) so_1079.is (by decide) (by decide) (by decide +kernel) rfl rfl dX12_lines_177 ?_
        refine uu_goto (tgt := 134) dX12_lines_180 (by decide) ?_
        exact hK134  _ _ h
      · replace h := uu_neg c11 h
        refine uu_iconst (v := 5) dX12_lines_168 (by decide) ?_
        have hr := Option.some.inj h
        subst hr
        exact uu_iret rfl dX12_lines_169
def fn_X12_lines_134 (K81 : uS → Option (uS × Int32)) : Nat → uS → Option (uS × Int32)
  | 0 => fun _ => none
  | n + 1 => fb_X12_lines_134 K81 (fn_X12_lines_134 K81 n)
set_option maxRecDepth 100000 in
set_option maxHeartbeats 4000000 in
theorem xn_X12_lines_134 {l : Launch} {D : va_G} {A : Nat → ClassId} {B : Nat} {Z : State → Heap → Prop} {vF : Value} (uk : uK B Z vF) {K81 : uS → Option (uS × Int32)} (hK81 : ∀   (s : uS) (r : (uS × Int32)), K81  s = some r → GU l D A B Z mX12_lines 1 (r.1, some (.int r.2)) s 81 [(0, .ref (B + 1079))] []) : ∀ (n : Nat)   (s : uS) (r : (uS × Int32)), fn_X12_lines_134 K81 n  s = some r → GU l D A B Z mX12_lines 1 (r.1, some (.int r.2)) s 134 [(0, .ref (B + 1079))] [] := by
  intro n
  induction n with
  | zero => intro s r h
            cases h
  | succ n ih => intro s r h
                 exact xb_X12_lines_134 uk hK81 ih  h
def fb_X12_lines_104 (K81 : uS → Option (uS × Int32))  (s : uS) : Option (uS × Int32) := (fn_X12_peek 0 s).bind fun v1 => if v1 = 46 then ((fn_X12_peek 1 s).bind fun v4 => if v4 = 46 then (fn_X12_lines_134 K81 uFu (wI s 1079 30 ((s.I 1079 30) + 1))) else (fn_X12_lines_134 K81 uFu s)) else (fn_X12_lines_134 K81 uFu s)
set_option maxRecDepth 100000 in
set_option maxHeartbeats 4000000 in
theorem xb_X12_lines_104 {l : Launch} {D : va_G} {A : Nat → ClassId} {B : Nat} {Z : State → Heap → Prop} {vF : Value} (uk : uK B Z vF) {K81 : uS → Option (uS × Int32)} (hK81 : ∀   (s : uS) (r : (uS × Int32)), K81  s = some r → GU l D A B Z mX12_lines 1 (r.1, some (.int r.2)) s 81 [(0, .ref (B + 1079))] [])  {s : uS} {r : (uS × Int32)}  (h : fb_X12_lines_104 K81  s = some r) : GU l D A B Z mX12_lines 1 (r.1, some (.int r.2)) s 104 [(0, .ref (B + 1079))] [] := by
  unfold fb_X12_lines_104 at h
  refine uu_aload_n dX12_lines_104 rfl (List.mem_of_getElem? (i := 0) rfl) ?_
  refine uu_iconst (v := 0) dX12_lines_105 (by decide) ?_
  obtain ⟨v1, e2, h⟩ := uu_ob h
  refine uu_cv (d1 := 0) (k := 1079) (ci := 12) (T := TX12) (N := 153) (As := [.int 0]) (st := []) (st' := [.int v1]) (xc_X12_peek uk  e2) so_1079.is (by decide) rfl kX12_peek lX12_190 sX12_peek (by decide) (Nat.le_of_ble_eq_true rfl) dX12_lines_106 rfl ?_
  refine uu_bipush (v := 46) dX12_lines_109 (by decide) ?_
  refine uu_icmp_ne (tgt := 134) dX12_lines_111 (by decide) (fun c3 => ?_) (fun c3 => ?_)
  · replace h := uu_neg c3 h
    exact xn_X12_lines_134 uk hK81 _ _ _ h
  · replace h := uu_pos c3 h
    refine uu_aload_n dX12_lines_114 rfl (List.mem_of_getElem? (i := 0) rfl) ?_
    refine uu_iconst (v := 1) dX12_lines_115 (by decide) ?_
    obtain ⟨v4, e5, h⟩ := uu_ob h
    refine uu_cv (d1 := 0) (k := 1079) (ci := 12) (T := TX12) (N := 153) (As := [.int 1]) (st := []) (st' := [.int v4]) (xc_X12_peek uk  e5) so_1079.is (by decide) rfl kX12_peek lX12_190 sX12_peek (by decide) (Nat.le_of_ble_eq_true rfl) dX12_lines_116 rfl ?_
    refine uu_bipush (v := 46) dX12_lines_119 (by decide) ?_
    refine uu_icmp_ne (tgt := 134) dX12_lines_121 (by decide) (fun c6 => ?_) (fun c6 => ?_)
    · replace h := uu_neg c6 h
      exact xn_X12_lines_134 uk hK81 _ _ _ h
    · replace h := uu_pos c6 h
      refine uu_aload_n dX12_lines_124 rfl (List.mem_of_getElem? (i := 0) rfl) ?_
      refine uu_aload_n dX12_lines_125 rfl (List.mem_of_getElem? (i := 0) rfl) ?_
      refine uu_geti (ci := 12) (N := 153) fX12_181 (by decide) so_1079.is (by decide) (by decide) dX12_lines_126 ?_
      refine uu_iconst (v := 1) dX12_lines_129 (by decide) ?_
      refine uu_iadd dX12_lines_130 ?_
      refine uu_puti (ft := .int) (ci := 12) (N := 153) fX12_181 ptX12 (Or.inl rfl) (by decide) so_1079.is (by decide) (by decide) (by decide +kernel) rfl rfl dX12_lines_131 ?_
      exact xn_X12_lines_134 uk hK81 _ _ _ h
def fb_X12_lines_81 (K81 : uS → Option (uS × Int32))  (s : uS) : Option (uS × Int32) := (fn_X12_peek 0 s).bind fun v1 => if v1 = 46 then ((fn_X12_endAt ((s.I 1079 30) + 1) s).bind fun v4 => if 0 < v4 then ((fn_X12_endAt ((s.I 1079 30) + 1) s).bind fun v7 => some (wI (wI s 1079 30 (((s.I 1079 30) + 1) + v7)) 1079 39 (((wI s 1079 30 (((s.I 1079 30) + 1) + v7)).I 1079 37) - ((wI s 1079 30 (((s.I 1079 30) + 1) + v7)).I 1079 38)), (4 : Int32))) else (fb_X12_lines_104 K81 s)) else (fb_X12_lines_104 K81 s)
set_option maxRecDepth 100000 in
set_option maxHeartbeats 4000000 in
theorem xb_X12_lines_81 {l : Launch} {D : va_G} {A : Nat → ClassId} {B : Nat} {Z : State → Heap → Prop} {vF : Value} (uk : uK B Z vF) {K81 : uS → Option (uS × Int32)} (hK81 : ∀   (s : uS) (r : (uS × Int32)), K81  s = some r → GU l D A B Z mX12_lines 1 (r.1, some (.int r.2)) s 81 [(0, .ref (B + 1079))] [])  {s : uS} {r : (uS × Int32)}  (h : fb_X12_lines_81 K81  s = some r) : GU l D A B Z mX12_lines 1 (r.1, some (.int r.2)) s 81 [(0, .ref (B + 1079))] [] := by
  unfold fb_X12_lines_81 at h
  refine uu_aload_n dX12_lines_81 rfl (List.mem_of_getElem? (i := 0) rfl) ?_
  refine uu_iconst (v := 0) dX12_lines_82 (by decide) ?_
  obtain ⟨v1, e2, h⟩ := uu_ob h
  refine uu_cv (d1 := 0) (k := 1079) (ci := 12) (T := TX12) (N := 153) (As := [.int 0]) (st := []) (st' := [.int v1]) (xc_X12_peek uk  e2) so_1079.is (by decide) rfl kX12_peek lX12_190 sX12_peek (by decide) (Nat.le_of_ble_eq_true rfl) dX12_lines_83 rfl ?_
  refine uu_bipush (v := 46) dX12_lines_86 (by decide) ?_
  refine uu_icmp_ne (tgt := 104) dX12_lines_88 (by decide) (fun c3 => ?_) (fun c3 => ?_)
  · replace h := uu_neg c3 h
    exact xb_X12_lines_104 uk hK81 h
  · replace h := uu_pos c3 h
    refine uu_aload_n dX12_lines_91 rfl (List.mem_of_getElem? (i := 0) rfl) ?_
    refine uu_aload_n dX12_lines_92 rfl (List.mem_of_getElem? (i := 0) rfl) ?_
    refine uu_geti (ci := 12) (N := 153) fX12_181 (by decide) so_1079.is (by decide) (by decide) dX12_lines_93 ?_
    refine uu_iconst (v := 1) dX12_lines_96 (by decide) ?_
    refine uu_iadd dX12_lines_97 ?_
    obtain ⟨v4, e5, h⟩ := uu_ob h
    refine uu_cv (d1 := 0) (k := 1079) (ci := 12) (T := TX12) (N := 153) (As := [.int ((s.I 1079 30) + 1)]) (st := []) (st' := [.int v4]) (xc_X12_endAt uk  e5) so_1079.is (by decide) rfl kX12_endAt lX12_270 sX12_endAt (by decide) (Nat.le_of_ble_eq_true rfl) dX12_lines_98 rfl ?_
    refine uu_if_gt (tgt := 241) dX12_lines_101 (by decide) (fun c6 => ?_) (fun c6 => ?_)
    · replace h := uu_pos c6 h
      refine uu_aload_n dX12_lines_241 rfl (List.mem_of_getElem? (i := 0) rfl) ?_
      refine uu_aload_n dX12_lines_242 rfl (List.mem_of_getElem? (i := 0) rfl) ?_
      refine uu_geti (ci := 12) (N := 153) fX12_181 (by decide) so_1079.is (by decide) (by decide) dX12_lines_243 ?_
      refine uu_iconst (v := 1) dX12_lines_246 (by decide) ?_
      refine uu_iadd dX12_lines_247 ?_
      refine uu_aload_n dX12_lines_248 rfl (List.mem_of_getElem? (i := 0) rfl) ?_
      refine uu_aload_n dX12_lines_249 rfl (List.mem_of_getElem? (i := 0) rfl) ?_
      refine uu_geti (ci := 12) (N := 153) fX12_181 (by decide) so_1079.is (by decide) (by decide) dX12_lines_250 ?_
      refine uu_iconst (v := 1) dX12_lines_253 (by decide) ?_
      refine uu_iadd dX12_lines_254 ?_
      obtain ⟨v7, e8, h⟩ := uu_ob h
      refine uu_cv (d1 := 0) (k := 1079) (ci := 12) (T := TX12) (N := 153) (As := [.int ((s.I 1079 30) + 1)]) (st := [.int ((s.I 1079 30) + 1), .ref (B + 1079)]) (st' := [.int v7, .int ((s.I 1079 30) + 1), .ref (B + 1079)]) (xc_X12_endAt uk  e8) so_1079.is (by decide) rfl kX12_endAt lX12_270 sX12_endAt (by decide) (Nat.le_of_ble_eq_true rfl) dX12_lines_255 rfl ?_
      refine uu_iadd dX12_lines_258 ?_
      refine uu_puti (ft := .int) (ci := 12) (N := 153) fX12_181 ptX12 (Or.inl rfl) (by decide) so_1079.is (by decide) (by decide) (by decide +kernel) rfl rfl dX12_lines_259 ?_
      refine uu_aload_n dX12_lines_262 rfl (List.mem_of_getElem? (i := 0) rfl) ?_
      refine uu_aload_n dX12_lines_263 rfl (List.mem_of_getElem? (i := 0) rfl) ?_
      refine uu_geti (ci := 12) (N := 153) fX12_254 (by decide) so_1079.is (by decide) (by decide) dX12_lines_264 ?_
      refine uu_aload_n dX12_lines_267 rfl (List.mem_of_getElem? (i := 0) rfl) ?_
      refine uu_geti (ci := 12) (N := 153) fX12_257 (by decide) so_1079.is (by decide) (by decide) dX12_lines_268 ?_
      refine uu_isub dX12_lines_271 ?_
      refine uu_puti (ft := .int) (ci := 12) (N := 153) fX12_267 ptX12 (Or.inl rfl) (by decide) so_1079.is (by decide) (by decide) (by decide +kernel) rfl rfl dX12_lines_272 ?_
      refine uu_iconst (v := 4) dX12_lines_275 (by decide) ?_
      have hr := Option.some.inj h
      subst hr
      exact uu_iret rfl dX12_lines_276
    · replace h := uu_neg c6 h
      exact xb_X12_lines_104 uk hK81 h
def fn_X12_lines_81  : Nat → uS → Option (uS × Int32)
  | 0 => fun _ => none
  | n + 1 => fb_X12_lines_81 (fn_X12_lines_81  n)
set_option maxRecDepth 100000 in
set_option maxHeartbeats 4000000 in
theorem xn_X12_lines_81 {l : Launch} {D : va_G} {A : Nat → ClassId} {B : Nat} {Z : State → Heap → Prop} {vF : Value} (uk : uK B Z vF)   : ∀ (n : Nat)   (s : uS) (r : (uS × Int32)), fn_X12_lines_81  n  s = some r → GU l D A B Z mX12_lines 1 (r.1, some (.int r.2)) s 81 [(0, .ref (B + 1079))] [] := by
  intro n
  induction n with
  | zero => intro s r h
            cases h
  | succ n ih => intro s r h
                 exact xb_X12_lines_81 uk ih  h
def fb_X12_lines_10 (K10 : uS → Option (uS × Int32))  (s : uS) : Option (uS × Int32) := (fn_X12_peek 0 s).bind fun v1 => if v1 = 32 then (fb_X12_lines_30 K10 s) else ((fn_X12_peek 0 s).bind fun v4 => if v4 = 9 then (fb_X12_lines_30 K10 s) else ((fn_X12_endAt (s.I 1079 30) s).bind fun v7 => if v7 = 0 then (some (s, (5 : Int32))) else ((fn_X12_endAt (s.I 1079 30) s).bind fun v10 => fn_X12_lines_81 uFu (wI (wI s 1079 30 ((s.I 1079 30) + v10)) 1079 38 ((wI s 1079 30 ((s.I 1079 30) + v10)).I 1079 37)))))
set_option maxRecDepth 100000 in
set_option maxHeartbeats 4000000 in
theorem xb_X12_lines_10 {l : Launch} {D : va_G} {A : Nat → ClassId} {B : Nat} {Z : State → Heap → Prop} {vF : Value} (uk : uK B Z vF) {K10 : uS → Option (uS × Int32)} (hK10 : ∀   (s : uS) (r : (uS × Int32)), K10  s = some r → GU l D A B Z mX12_lines 1 (r.1, some (.int r.2)) s 10 [(0, .ref (B + 1079))] [])  {s : uS} {r : (uS × Int32)}  (h : fb_X12_lines_10 K10  s = some r) : GU l D A B Z mX12_lines 1 (r.1, some (.int r.2)) s 10 [(0, .ref (B + 1079))] [] := by
  unfold fb_X12_lines_10 at h
  refine uu_aload_n dX12_lines_10 rfl (List.mem_of_getElem? (i := 0) rfl) ?_
  refine uu_iconst (v := 0) dX12_lines_11 (by decide) ?_
  obtain ⟨v1, e2, h⟩ := uu_ob h
  refine uu_cv (d1 := 0) (k := 1079) (ci := 12) (T := TX12) (N := 153) (As := [.int 0]) (st := []) (st' := [.int v1]) (xc_X12_peek uk  e2) so_1079.is (by decide) rfl kX12_peek lX12_190 sX12_peek (by decide) (Nat.le_of_ble_eq_true rfl) dX12_lines_12 rfl ?_
  refine uu_bipush (v := 32) dX12_lines_15 (by decide) ?_
  refine uu_icmp_eq (tgt := 30) dX12_lines_17 (by decide) (fun c3 => ?_) (fun c3 => ?_)
  · replace h := uu_pos c3 h
    exact xb_X12_lines_30 uk hK10 h
  · replace h := uu_neg c3 h
    refine uu_aload_n dX12_lines_20 rfl (List.mem_of_getElem? (i := 0) rfl) ?_
    refine uu_iconst (v := 0) dX12_lines_21 (by decide) ?_
    obtain ⟨v4, e5, h⟩ := uu_ob h
    refine uu_cv (d1 := 0) (k := 1079) (ci := 12) (T := TX12) (N := 153) (As := [.int 0]) (st := []) (st' := [.int v4]) (xc_X12_peek uk  e5) so_1079.is (by decide) rfl kX12_peek lX12_190 sX12_peek (by decide) (Nat.le_of_ble_eq_true rfl) dX12_lines_22 rfl ?_
    refine uu_bipush (v := 9) dX12_lines_25 (by decide) ?_
    refine uu_icmp_ne (tgt := 43) dX12_lines_27 (by decide) (fun c6 => ?_) (fun c6 => ?_)
    · replace h := uu_neg c6 h
      refine uu_aload_n dX12_lines_43 rfl (List.mem_of_getElem? (i := 0) rfl) ?_
      refine uu_aload_n dX12_lines_44 rfl (List.mem_of_getElem? (i := 0) rfl) ?_
      refine uu_geti (ci := 12) (N := 153) fX12_181 (by decide) so_1079.is (by decide) (by decide) dX12_lines_45 ?_
      obtain ⟨v7, e8, h⟩ := uu_ob h
      refine uu_cv (d1 := 0) (k := 1079) (ci := 12) (T := TX12) (N := 153) (As := [.int (s.I 1079 30)]) (st := []) (st' := [.int v7]) (xc_X12_endAt uk  e8) so_1079.is (by decide) rfl kX12_endAt lX12_270 sX12_endAt (by decide) (Nat.le_of_ble_eq_true rfl) dX12_lines_48 rfl ?_
      refine uu_if_ne (tgt := 56) dX12_lines_51 (by decide) (fun c9 => ?_) (fun c9 => ?_)
      · replace h := uu_neg c9 h
        refine uu_aload_n dX12_lines_56 rfl (List.mem_of_getElem? (i := 0) rfl) ?_
        refine uu_aload_n dX12_lines_57 rfl (List.mem_of_getElem? (i := 0) rfl) ?_
        refine uu_geti (ci := 12) (N := 153) fX12_181 (by decide) so_1079.is (by decide) (by decide) dX12_lines_58 ?_
        refine uu_aload_n dX12_lines_61 rfl (List.mem_of_getElem? (i := 0) rfl) ?_
        refine uu_aload_n dX12_lines_62 rfl (List.mem_of_getElem? (i := 0) rfl) ?_
        refine uu_geti (ci := 12) (N := 153) fX12_181 (by decide) so_1079.is (by decide) (by decide) dX12_lines_63 ?_
        obtain ⟨v10, e11, h⟩ := uu_ob h
        refine uu_cv (d1 := 0) (k := 1079) (ci := 12) (T := TX12) (N := 153) (As := [.int (s.I 1079 30)]) (st := [.int (s.I 1079 30), .ref (B + 1079)]) (st' := [.int v10, .int (s.I 1079 30), .ref (B + 1079)]) (xc_X12_endAt uk  e11) so_1079.is (by decide) rfl kX12_endAt lX12_270 sX12_endAt (by decide) (Nat.le_of_ble_eq_true rfl) dX12_lines_66 rfl ?_
        refine uu_iadd dX12_lines_69 ?_
        refine uu_puti (ft := .int) (ci := 12) (N := 153) fX12_181 ptX12 (Or.inl rfl) (by decide) so_1079.is (by decide) (by decide) (by decide +kernel) rfl rfl dX12_lines_70 ?_
        refine uu_aload_n dX12_lines_73 rfl (List.mem_of_getElem? (i := 0) rfl) ?_
        refine uu_aload_n dX12_lines_74 rfl (List.mem_of_getElem? (i := 0) rfl) ?_
        refine uu_geti (ci := 12) (N := 153) fX12_254 (by decide) so_1079.is (by decide) (by decide) dX12_lines_75 ?_
        refine uu_puti (ft := .int) (ci := 12) (N := 153) fX12_257 ptX12 (Or.inl rfl) (by decide) so_1079.is (by decide) (by decide) (by decide +kernel) rfl rfl dX12_lines_78 ?_
        exact xn_X12_lines_81 uk  _ _ _ h
      · replace h := uu_pos c9 h
        refine uu_iconst (v := 5) dX12_lines_54 (by decide) ?_
        have hr := Option.some.inj h
        subst hr
        exact uu_iret rfl dX12_lines_55
    · replace h := uu_pos c6 h
      exact xb_X12_lines_30 uk hK10 h
def fn_X12_lines_10  : Nat → uS → Option (uS × Int32)
  | 0 => fun _ => none
  | n + 1 => fb_X12_lines_10 (fn_X12_lines_10  n)
set_option maxRecDepth 100000 in
set_option maxHeartbeats 4000000 in
theorem xn_X12_lines_10 {l : Launch} {D : va_G} {A : Nat → ClassId} {B : Nat} {Z : State → Heap → Prop} {vF : Value} (uk : uK B Z vF)   : ∀ (n : Nat)   (s : uS) (r : (uS × Int32)), fn_X12_lines_10  n  s = some r → GU l D A B Z mX12_lines 1 (r.1, some (.int r.2)) s 10 [(0, .ref (B + 1079))] [] := by
  intro n
  induction n with
  | zero => intro s r h
            cases h
  | succ n ih => intro s r h
                 exact xb_X12_lines_10 uk ih  h
def fn_X12_lines  (s : uS) : Option (uS × Int32) := fn_X12_lines_10 uFu (wI s 1079 30 ((s.I 1079 30) + 1))
set_option maxRecDepth 100000 in
set_option maxHeartbeats 4000000 in
theorem xc_X12_lines {l : Launch} {D : va_G} {A : Nat → ClassId} {B : Nat} {Z : State → Heap → Prop} {vF : Value} (uk : uK B Z vF)  {s : uS} {r : (uS × Int32)}  (h : fn_X12_lines  s = some r) : CU l D A B Z 1 mX12_lines s [.ref (B + 1079)] (r.1, some (.int r.2)) := by
  unfold fn_X12_lines at h
  refine cu_of rfl uk.1.1 (Nat.le_of_ble_eq_true rfl) ?_
  show GU _ _ _ _ _ _ _ _ _ 0 [(0, .ref (B + 1079))] []
  refine uu_aload_n dX12_lines_0 rfl (List.mem_of_getElem? (i := 0) rfl) ?_
  refine uu_aload_n dX12_lines_1 rfl (List.mem_of_getElem? (i := 0) rfl) ?_
  refine uu_geti (ci := 12) (N := 153) fX12_181 (by decide) so_1079.is (by decide) (by decide) dX12_lines_2 ?_
  refine uu_iconst (v := 1) dX12_lines_5 (by decide) ?_
  refine uu_iadd dX12_lines_6 ?_
  refine uu_puti (ft := .int) (ci := 12) (N := 153) fX12_181 ptX12 (Or.inl rfl) (by decide) so_1079.is (by decide) (by decide) (by decide +kernel) rfl rfl dX12_lines_7 ?_
  exact xn_X12_lines_10 uk  _ _ _ h
abbrev mX12_word : hM := (yX12_word, cX12_word, 1, (some (.int)))
theorem dX12_word_0 : decode cX12_word 0 = .ok (.aload_n 0, 1) := by decide +kernel
theorem kX12_wordOf : h_ml mX12_wordOf 0 := ⟨h_t8 87 rfl rfl, h_t1 16 rfl rfl, ⟨by decide, by decide, by decide +kernel⟩, by decide⟩
theorem lX12_214 : Cond.methodLink RX12 214 mX12_wordOf.1 ∈ lw_g := h_t8 84 rfl rfl
theorem sX12_wordOf : Cond.instanceMethod mX12_wordOf.1 ∈ lw_g ∧ Cond.selects mX12_wordOf.1.cls mX12_wordOf.1 mX12_wordOf.1 ∈ lw_g := ⟨h_t8 86 rfl rfl, h_ins 124 rfl⟩
theorem dX12_word_1 : decode cX12_word 1 = .ok (.invokevirtual 214, 3) := by decide +kernel
theorem dX12_word_4 : decode cX12_word 4 = .ok (.aload_n 0, 1) := by decide +kernel
theorem dX12_word_5 : decode cX12_word 5 = .ok (.ldc 233, 2) := by decide +kernel
theorem kX12_wordIs : h_ml mX12_wordIs 1 := ⟨h_t8 98 rfl rfl, h_t1 16 rfl rfl, ⟨by decide, by decide, by decide +kernel⟩, by decide⟩
theorem lX12_235 : Cond.methodLink RX12 235 mX12_wordIs.1 ∈ lw_g := h_t8 95 rfl rfl
theorem sX12_wordIs : Cond.instanceMethod mX12_wordIs.1 ∈ lw_g ∧ Cond.selects mX12_wordIs.1.cls mX12_wordIs.1 mX12_wordIs.1 ∈ lw_g := ⟨h_t8 97 rfl rfl, h_ins 125 rfl⟩
theorem dX12_word_7 : decode cX12_word 7 = .ok (.invokevirtual 235, 3) := by decide +kernel
theorem dX12_word_10 : decode cX12_word 10 = .ok (.ifCond .eq 20, 3) := by decide +kernel
theorem dX12_word_30 : decode cX12_word 30 = .ok (.iconst 1, 1) := by decide +kernel
theorem dX12_word_31 : decode cX12_word 31 = .ok (.ireturn, 1) := by decide +kernel
theorem dX12_word_13 : decode cX12_word 13 = .ok (.aload_n 0, 1) := by decide +kernel
theorem dX12_word_14 : decode cX12_word 14 = .ok (.iconst 0, 1) := by decide +kernel
theorem dX12_word_15 : decode cX12_word 15 = .ok (.invokevirtual 190, 3) := by decide +kernel
theorem dX12_word_18 : decode cX12_word 18 = .ok (.bipush 58, 2) := by decide +kernel
theorem dX12_word_20 : decode cX12_word 20 = .ok (.if_icmp .ne 10, 3) := by decide +kernel
theorem dX12_word_23 : decode cX12_word 23 = .ok (.aload_n 0, 1) := by decide +kernel
theorem kX12_lines : h_ml mX12_lines 0 := ⟨h_t8 105 rfl rfl, h_t1 16 rfl rfl, ⟨by decide, by decide, by decide +kernel⟩, by decide⟩
theorem lX12_238 : Cond.methodLink RX12 238 mX12_lines.1 ∈ lw_g := h_t8 102 rfl rfl
theorem sX12_lines : Cond.instanceMethod mX12_lines.1 ∈ lw_g ∧ Cond.selects mX12_lines.1.cls mX12_lines.1 mX12_lines.1 ∈ lw_g := ⟨h_t8 104 rfl rfl, h_ins 126 rfl⟩
theorem dX12_word_24 : decode cX12_word 24 = .ok (.invokevirtual 238, 3) := by decide +kernel
theorem dX12_word_27 : decode cX12_word 27 = .ok (.goto 4, 3) := by decide +kernel
def fn_X12_word  (s : uS) : Option (uS × Int32) := (fn_X12_wordOf s).bind fun s1 => (fn_X12_wordIs kW_75 s1).bind fun v4 => if v4 = true then ((fn_X12_peek 0 s1).bind fun v7 => if v7 = 58 then ((fn_X12_lines s1).bind fun r10 => some (r10.1, r10.2)) else (some (s1, (1 : Int32)))) else (some (s1, (1 : Int32)))
set_option maxRecDepth 100000 in
set_option maxHeartbeats 4000000 in
theorem xc_X12_word {l : Launch} {D : va_G} {A : Nat → ClassId} {B : Nat} {Z : State → Heap → Prop} {vF : Value} (uk : uK B Z vF)  {s : uS} {r : (uS × Int32)}  (h : fn_X12_word  s = some r) : CU l D A B Z 5 mX12_word s [.ref (B + 1079)] (r.1, some (.int r.2)) := by
  unfold fn_X12_word at h
  refine cu_of rfl uk.1.1 (Nat.le_of_ble_eq_true rfl) ?_
  show GU _ _ _ _ _ _ _ _ _ 0 [(0, .ref (B + 1079))] []
  refine uu_aload_n dX12_word_0 rfl (List.mem_of_getElem? (i := 0) rfl) ?_
  obtain ⟨s1, e2, h⟩ := uu_ob h
  refine uu_cv (d1 := 2) (k := 1079) (ci := 12) (T := TX12) (N := 153) (As := []) (st := []) (st' := []) (xc_X12_wordOf uk  e2) so_1079.is (by decide) rfl kX12_wordOf lX12_214 sX12_wordOf (by decide) (Nat.le_of_ble_eq_true rfl) dX12_word_1 rfl ?_
  refine uu_aload_n dX12_word_4 rfl (List.mem_of_getElem? (i := 0) rfl) ?_
  obtain ⟨cq3, cp3, cv3, cw3⟩ := uk.2.1 75 _ rfl
  refine uu_ldcS cv3 dX12_word_5 ?_
  obtain ⟨v4, e5, h⟩ := uu_ob h
  refine uu_cv (d1 := 4) (k := 1079) (ci := 12) (T := TX12) (N := 153) (As := [.ref cq3]) (st := []) (st' := [.int (bI v4)]) (xc_X12_wordIs uk cw3 e5) so_1079.is (by decide) rfl kX12_wordIs lX12_235 sX12_wordIs (by decide) (Nat.le_of_ble_eq_true rfl) dX12_word_7 rfl ?_
  refine uu_ifb_eq (tgt := 30) dX12_word_10 (by decide) (fun c6 => ?_) (fun c6 => ?_)
  · replace h := uu_neg c6 h
    refine uu_iconst (v := 1) dX12_word_30 (by decide) ?_
    have hr := Option.some.inj h
    subst hr
    exact uu_iret rfl dX12_word_31
  · replace h := uu_pos c6 h
    refine uu_aload_n dX12_word_13 rfl (List.mem_of_getElem? (i := 0) rfl) ?_
    refine uu_iconst (v := 0) dX12_word_14 (by decide) ?_
    obtain ⟨v7, e8, h⟩ := uu_ob h
    refine uu_cv (d1 := 0) (k := 1079) (ci := 12) (T := TX12) (N := 153) (As := [.int 0]) (st := []) (st' := [.int v7]) (xc_X12_peek uk  e8) so_1079.is (by decide) rfl kX12_peek lX12_190 sX12_peek (by decide) (Nat.le_of_ble_eq_true rfl) dX12_word_15 rfl ?_
    refine uu_bipush (v := 58) dX12_word_18 (by decide) ?_
    refine uu_icmp_ne (tgt := 30) dX12_word_20 (by decide) (fun c9 => ?_) (fun c9 => ?_)
    · replace h := uu_neg c9 h
      refine uu_iconst (v := 1) dX12_word_30 (by decide) ?_
      have hr := Option.some.inj h
      subst hr
      exact uu_iret rfl dX12_word_31
    · replace h := uu_pos c9 h
      refine uu_aload_n dX12_word_23 rfl (List.mem_of_getElem? (i := 0) rfl) ?_
      obtain ⟨r10, e11, h⟩ := uu_ob h
      refine uu_cv (d1 := 1) (k := 1079) (ci := 12) (T := TX12) (N := 153) (As := []) (st := []) (st' := [.int r10.2]) (xc_X12_lines uk  e11) so_1079.is (by decide) rfl kX12_lines lX12_238 sX12_lines (by decide) (Nat.le_of_ble_eq_true rfl) dX12_word_24 rfl ?_
      refine uu_goto (tgt := 31) dX12_word_27 (by decide) ?_
      have hr := Option.some.inj h
      subst hr
      exact uu_iret rfl dX12_word_31
abbrev mX12_token : hM := (yX12_token, cX12_token, 3, (some (.int)))
theorem dX12_token_25 : decode cX12_token 25 = .ok (.aload_n 0, 1) := by decide +kernel
theorem kX12_word : h_ml mX12_word 0 := ⟨h_t8 83 rfl rfl, h_t1 16 rfl rfl, ⟨by decide, by decide, by decide +kernel⟩, by decide⟩
theorem lX12_211 : Cond.methodLink RX12 211 mX12_word.1 ∈ lw_g := h_t8 80 rfl rfl
theorem sX12_word : Cond.instanceMethod mX12_word.1 ∈ lw_g ∧ Cond.selects mX12_word.1.cls mX12_word.1 mX12_word.1 ∈ lw_g := ⟨h_t8 82 rfl rfl, h_ins 123 rfl⟩
theorem dX12_token_26 : decode cX12_token 26 = .ok (.invokevirtual 211, 3) := by decide +kernel
theorem dX12_token_29 : decode cX12_token 29 = .ok (.ireturn, 1) := by decide +kernel
theorem dX12_token_59 : decode cX12_token 59 = .ok (.aload_n 0, 1) := by decide +kernel
theorem dX12_token_60 : decode cX12_token 60 = .ok (.aload_n 0, 1) := by decide +kernel
theorem dX12_token_61 : decode cX12_token 61 = .ok (.getfield 181, 3) := by decide +kernel
theorem dX12_token_64 : decode cX12_token 64 = .ok (.iconst 1, 1) := by decide +kernel
theorem dX12_token_65 : decode cX12_token 65 = .ok (.iadd, 1) := by decide +kernel
theorem dX12_token_66 : decode cX12_token 66 = .ok (.putfield 181, 3) := by decide +kernel
theorem dX12_token_69 : decode cX12_token 69 = .ok (.aload_n 0, 1) := by decide +kernel
theorem dX12_token_70 : decode cX12_token 70 = .ok (.invokevirtual 214, 3) := by decide +kernel
theorem dX12_token_73 : decode cX12_token 73 = .ok (.iconst 2, 1) := by decide +kernel
theorem dX12_token_74 : decode cX12_token 74 = .ok (.ireturn, 1) := by decide +kernel
theorem dX12_token_151 : decode cX12_token 151 = .ok (.istore_n 2, 1) := by decide +kernel
theorem dX12_token_152 : decode cX12_token 152 = .ok (.iload_n 2, 1) := by decide +kernel
theorem dX12_token_153 : decode cX12_token 153 = .ok (.ifCond .ne 5, 3) := by decide +kernel
theorem dX12_token_158 : decode cX12_token 158 = .ok (.aload_n 0, 1) := by decide +kernel
theorem dX12_token_159 : decode cX12_token 159 = .ok (.aload_n 0, 1) := by decide +kernel
theorem dX12_token_160 : decode cX12_token 160 = .ok (.getfield 181, 3) := by decide +kernel
theorem dX12_token_163 : decode cX12_token 163 = .ok (.iconst 1, 1) := by decide +kernel
theorem dX12_token_164 : decode cX12_token 164 = .ok (.iadd, 1) := by decide +kernel
theorem dX12_token_165 : decode cX12_token 165 = .ok (.putfield 181, 3) := by decide +kernel
theorem dX12_token_168 : decode cX12_token 168 = .ok (.bipush 100, 2) := by decide +kernel
theorem dX12_token_170 : decode cX12_token 170 = .ok (.iload_n 1, 1) := by decide +kernel
theorem dX12_token_171 : decode cX12_token 171 = .ok (.iadd, 1) := by decide +kernel
theorem dX12_token_172 : decode cX12_token 172 = .ok (.ireturn, 1) := by decide +kernel
theorem dX12_token_156 : decode cX12_token 156 = .ok (.iconst 5, 1) := by decide +kernel
theorem dX12_token_157 : decode cX12_token 157 = .ok (.ireturn, 1) := by decide +kernel
theorem dX12_token_0 : decode cX12_token 0 = .ok (.aload_n 0, 1) := by decide +kernel
theorem dX12_token_1 : decode cX12_token 1 = .ok (.iconst 0, 1) := by decide +kernel
theorem dX12_token_2 : decode cX12_token 2 = .ok (.invokevirtual 190, 3) := by decide +kernel
theorem dX12_token_5 : decode cX12_token 5 = .ok (.istore_n 1, 1) := by decide +kernel
theorem dX12_token_6 : decode cX12_token 6 = .ok (.iload_n 1, 1) := by decide +kernel
theorem dX12_token_7 : decode cX12_token 7 = .ok (.ifCond .ge 5, 3) := by decide +kernel
theorem dX12_token_12 : decode cX12_token 12 = .ok (.iload_n 1, 1) := by decide +kernel
theorem dX12_token_13 : decode cX12_token 13 = .ok (.invokestatic 133, 3) := by decide +kernel
theorem dX12_token_16 : decode cX12_token 16 = .ok (.ifCond .ne 9, 3) := by decide +kernel
theorem dX12_token_19 : decode cX12_token 19 = .ok (.iload_n 1, 1) := by decide +kernel
theorem dX12_token_20 : decode cX12_token 20 = .ok (.bipush 95, 2) := by decide +kernel
theorem dX12_token_22 : decode cX12_token 22 = .ok (.if_icmp .ne 8, 3) := by decide +kernel
theorem dX12_token_30 : decode cX12_token 30 = .ok (.iload_n 1, 1) := by decide +kernel
theorem dX12_token_31 : decode cX12_token 31 = .ok (.bipush 58, 2) := by decide +kernel
theorem dX12_token_33 : decode cX12_token 33 = .ok (.if_icmp .ne 42, 3) := by decide +kernel
theorem dX12_token_75 : decode cX12_token 75 = .ok (.iload_n 1, 1) := by decide +kernel
theorem dX12_token_76 : decode cX12_token 76 = .ok (.invokestatic 137, 3) := by decide +kernel
theorem dX12_token_79 : decode cX12_token 79 = .ok (.ifCond .eq 8, 3) := by decide +kernel
theorem dX12_token_87 : decode cX12_token 87 = .ok (.iload_n 1, 1) := by decide +kernel
theorem dX12_token_88 : decode cX12_token 88 = .ok (.bipush 34, 2) := by decide +kernel
theorem dX12_token_90 : decode cX12_token 90 = .ok (.if_icmp .ne 8, 3) := by decide +kernel
theorem dX12_token_98 : decode cX12_token 98 = .ok (.iload_n 1, 1) := by decide +kernel
theorem dX12_token_99 : decode cX12_token 99 = .ok (.bipush 59, 2) := by decide +kernel
theorem dX12_token_101 : decode cX12_token 101 = .ok (.if_icmp .eq 45, 3) := by decide +kernel
theorem dX12_token_146 : decode cX12_token 146 = .ok (.iconst 1, 1) := by decide +kernel
theorem dX12_token_147 : decode cX12_token 147 = .ok (.goto 4, 3) := by decide +kernel
theorem dX12_token_104 : decode cX12_token 104 = .ok (.iload_n 1, 1) := by decide +kernel
theorem dX12_token_105 : decode cX12_token 105 = .ok (.bipush 44, 2) := by decide +kernel
theorem dX12_token_107 : decode cX12_token 107 = .ok (.if_icmp .eq 39, 3) := by decide +kernel
theorem dX12_token_110 : decode cX12_token 110 = .ok (.iload_n 1, 1) := by decide +kernel
theorem dX12_token_111 : decode cX12_token 111 = .ok (.bipush 40, 2) := by decide +kernel
theorem dX12_token_113 : decode cX12_token 113 = .ok (.if_icmp .eq 33, 3) := by decide +kernel
theorem dX12_token_116 : decode cX12_token 116 = .ok (.iload_n 1, 1) := by decide +kernel
theorem dX12_token_117 : decode cX12_token 117 = .ok (.bipush 41, 2) := by decide +kernel
theorem dX12_token_119 : decode cX12_token 119 = .ok (.if_icmp .eq 27, 3) := by decide +kernel
theorem dX12_token_122 : decode cX12_token 122 = .ok (.iload_n 1, 1) := by decide +kernel
theorem dX12_token_123 : decode cX12_token 123 = .ok (.bipush 91, 2) := by decide +kernel
theorem dX12_token_125 : decode cX12_token 125 = .ok (.if_icmp .eq 21, 3) := by decide +kernel
theorem dX12_token_128 : decode cX12_token 128 = .ok (.iload_n 1, 1) := by decide +kernel
theorem dX12_token_129 : decode cX12_token 129 = .ok (.bipush 93, 2) := by decide +kernel
theorem dX12_token_131 : decode cX12_token 131 = .ok (.if_icmp .eq 15, 3) := by decide +kernel
theorem dX12_token_134 : decode cX12_token 134 = .ok (.iload_n 1, 1) := by decide +kernel
theorem dX12_token_135 : decode cX12_token 135 = .ok (.bipush 123, 2) := by decide +kernel
theorem dX12_token_137 : decode cX12_token 137 = .ok (.if_icmp .eq 9, 3) := by decide +kernel
theorem dX12_token_140 : decode cX12_token 140 = .ok (.iload_n 1, 1) := by decide +kernel
theorem dX12_token_141 : decode cX12_token 141 = .ok (.bipush 125, 2) := by decide +kernel
theorem dX12_token_143 : decode cX12_token 143 = .ok (.if_icmp .ne 7, 3) := by decide +kernel
theorem dX12_token_150 : decode cX12_token 150 = .ok (.iconst 0, 1) := by decide +kernel
theorem dX12_token_93 : decode cX12_token 93 = .ok (.aload_n 0, 1) := by decide +kernel
theorem kX12_quoted : h_ml mX12_quoted 0 := ⟨h_t8 126 rfl rfl, h_t1 16 rfl rfl, ⟨by decide, by decide, by decide +kernel⟩, by decide⟩
theorem lX12_221 : Cond.methodLink RX12 221 mX12_quoted.1 ∈ lw_g := h_t8 123 rfl rfl
theorem sX12_quoted : Cond.instanceMethod mX12_quoted.1 ∈ lw_g ∧ Cond.selects mX12_quoted.1.cls mX12_quoted.1 mX12_quoted.1 ∈ lw_g := ⟨h_t8 125 rfl rfl, h_ins 130 rfl⟩
theorem dX12_token_94 : decode cX12_token 94 = .ok (.invokevirtual 221, 3) := by decide +kernel
theorem dX12_token_97 : decode cX12_token 97 = .ok (.ireturn, 1) := by decide +kernel
theorem dX12_token_82 : decode cX12_token 82 = .ok (.aload_n 0, 1) := by decide +kernel
theorem kX12_digits : h_ml mX12_digits 0 := ⟨h_t8 117 rfl rfl, h_t1 16 rfl rfl, ⟨by decide, by decide, by decide +kernel⟩, by decide⟩
theorem lX12_218 : Cond.methodLink RX12 218 mX12_digits.1 ∈ lw_g := h_t8 114 rfl rfl
theorem sX12_digits : Cond.instanceMethod mX12_digits.1 ∈ lw_g ∧ Cond.selects mX12_digits.1.cls mX12_digits.1 mX12_digits.1 ∈ lw_g := ⟨h_t8 116 rfl rfl, h_ins 129 rfl⟩
theorem dX12_token_83 : decode cX12_token 83 = .ok (.invokevirtual 218, 3) := by decide +kernel
theorem dX12_token_86 : decode cX12_token 86 = .ok (.ireturn, 1) := by decide +kernel
theorem dX12_token_36 : decode cX12_token 36 = .ok (.aload_n 0, 1) := by decide +kernel
theorem dX12_token_37 : decode cX12_token 37 = .ok (.iconst 1, 1) := by decide +kernel
theorem dX12_token_38 : decode cX12_token 38 = .ok (.invokevirtual 190, 3) := by decide +kernel
theorem dX12_token_41 : decode cX12_token 41 = .ok (.invokestatic 133, 3) := by decide +kernel
theorem dX12_token_44 : decode cX12_token 44 = .ok (.ifCond .ne 15, 3) := by decide +kernel
theorem dX12_token_47 : decode cX12_token 47 = .ok (.aload_n 0, 1) := by decide +kernel
theorem dX12_token_48 : decode cX12_token 48 = .ok (.iconst 1, 1) := by decide +kernel
theorem dX12_token_49 : decode cX12_token 49 = .ok (.invokevirtual 190, 3) := by decide +kernel
theorem dX12_token_52 : decode cX12_token 52 = .ok (.bipush 95, 2) := by decide +kernel
theorem dX12_token_54 : decode cX12_token 54 = .ok (.if_icmp .eq 5, 3) := by decide +kernel
theorem dX12_token_57 : decode cX12_token 57 = .ok (.iconst 5, 1) := by decide +kernel
theorem dX12_token_58 : decode cX12_token 58 = .ok (.ireturn, 1) := by decide +kernel
theorem dX12_token_10 : decode cX12_token 10 = .ok (.iconst 0, 1) := by decide +kernel
theorem dX12_token_11 : decode cX12_token 11 = .ok (.ireturn, 1) := by decide +kernel
def fb_X12_token_25   (s : uS) : Option (uS × Int32) := (fn_X12_word s).bind fun r1 => some (r1.1, r1.2)
set_option maxRecDepth 100000 in
set_option maxHeartbeats 4000000 in
theorem xb_X12_token_25 {l : Launch} {D : va_G} {A : Nat → ClassId} {B : Nat} {Z : State → Heap → Prop} {vF : Value} (uk : uK B Z vF)    {s : uS} {r : (uS × Int32)}  (h : fb_X12_token_25   s = some r) : GU l D A B Z mX12_token 6 (r.1, some (.int r.2)) s 25 [(0, .ref (B + 1079))] [] := by
  unfold fb_X12_token_25 at h
  refine uu_aload_n dX12_token_25 rfl (List.mem_of_getElem? (i := 0) rfl) ?_
  obtain ⟨r1, e2, h⟩ := uu_ob h
  refine uu_cv (d1 := 5) (k := 1079) (ci := 12) (T := TX12) (N := 153) (As := []) (st := []) (st' := [.int r1.2]) (xc_X12_word uk  e2) so_1079.is (by decide) rfl kX12_word lX12_211 sX12_word (by decide) (Nat.le_of_ble_eq_true rfl) dX12_token_26 rfl ?_
  have hr := Option.some.inj h
  subst hr
  exact uu_iret rfl dX12_token_29
def fb_X12_token_59   (s : uS) : Option (uS × Int32) := (fn_X12_wordOf (wI s 1079 30 ((s.I 1079 30) + 1))).bind fun s1 => some (s1, (2 : Int32))
set_option maxRecDepth 100000 in
set_option maxHeartbeats 4000000 in
theorem xb_X12_token_59 {l : Launch} {D : va_G} {A : Nat → ClassId} {B : Nat} {Z : State → Heap → Prop} {vF : Value} (uk : uK B Z vF)    {s : uS} {r : (uS × Int32)}  (h : fb_X12_token_59   s = some r) : GU l D A B Z mX12_token 6 (r.1, some (.int r.2)) s 59 [(0, .ref (B + 1079))] [] := by
  unfold fb_X12_token_59 at h
  refine uu_aload_n dX12_token_59 rfl (List.mem_of_getElem? (i := 0) rfl) ?_
  refine uu_aload_n dX12_token_60 rfl (List.mem_of_getElem? (i := 0) rfl) ?_
  refine uu_geti (ci := 12) (N := 153) fX12_181 (by decide) so_1079.is (by decide) (by decide) dX12_token_61 ?_
  refine uu_iconst (v := 1) dX12_token_64 (by decide) ?_
  refine uu_iadd dX12_token_65 ?_
  refine uu_puti (ft := .int) (ci := 12) (N := 153) fX12_181 ptX12 (Or.inl rfl) (by decide) so_1079.is (by decide) (by decide) (by decide +kernel) rfl rfl dX12_token_66 ?_
  refine uu_aload_n dX12_token_69 rfl (List.mem_of_getElem? (i := 0) rfl) ?_
  obtain ⟨s1, e2, h⟩ := uu_ob h
  refine uu_cv (d1 := 2) (k := 1079) (ci := 12) (T := TX12) (N := 153) (As := []) (st := []) (st' := []) (xc_X12_wordOf uk  e2) so_1079.is (by decide) rfl kX12_wordOf lX12_214 sX12_wordOf (by decide) (Nat.le_of_ble_eq_true rfl) dX12_token_70 rfl ?_
  refine uu_iconst (v := 2) dX12_token_73 (by decide) ?_
  have hr := Option.some.inj h
  subst hr
  exact uu_iret rfl dX12_token_74
def fb_X12_token_151  (x1 : Int32) (bs0 : Bool) (s : uS) : Option (uS × Int32) := if bs0 = true then (some (wI s 1079 30 ((s.I 1079 30) + 1), (100 : Int32) + x1)) else (some (s, (5 : Int32)))
set_option maxRecDepth 100000 in
set_option maxHeartbeats 4000000 in
theorem xb_X12_token_151 {l : Launch} {D : va_G} {A : Nat → ClassId} {B : Nat} {Z : State → Heap → Prop} {vF : Value} (uk : uK B Z vF)   {x1 : Int32} {bs0 : Bool} {s : uS} {r : (uS × Int32)}  (h : fb_X12_token_151  x1 bs0 s = some r) : GU l D A B Z mX12_token 6 (r.1, some (.int r.2)) s 151 [(0, .ref (B + 1079)), (1, .int x1)] [.int (bI bs0)] := by
  unfold fb_X12_token_151 at h
  refine uu_istore_n dX12_token_151 rfl (by decide) rfl ?_
  refine uu_iload_n dX12_token_152 rfl (List.mem_of_getElem? (i := 0) rfl) ?_
  refine uu_ifb_ne (tgt := 158) dX12_token_153 (by decide) (fun c1 => ?_) (fun c1 => ?_)
  · replace h := uu_pos c1 h
    refine uu_aload_n dX12_token_158 rfl (List.mem_of_getElem? (i := 1) rfl) ?_
    refine uu_aload_n dX12_token_159 rfl (List.mem_of_getElem? (i := 1) rfl) ?_
    refine uu_geti (ci := 12) (N := 153) fX12_181 (by decide) so_1079.is (by decide) (by decide) dX12_token_160 ?_
    refine uu_iconst (v := 1) dX12_token_163 (by decide) ?_
    refine uu_iadd dX12_token_164 ?_
    refine uu_puti (ft := .int) (ci := 12) (N := 153) fX12_181 ptX12 (Or.inl rfl) (by decide) so_1079.is (by decide) (by decide) (by decide +kernel) rfl rfl dX12_token_165 ?_
    refine uu_bipush (v := 100) dX12_token_168 (by decide) ?_
    refine uu_iload_n dX12_token_170 rfl (List.mem_of_getElem? (i := 2) rfl) ?_
    refine uu_iadd dX12_token_171 ?_
    have hr := Option.some.inj h
    subst hr
    exact uu_iret rfl dX12_token_172
  · replace h := uu_neg c1 h
    refine uu_iconst (v := 5) dX12_token_156 (by decide) ?_
    have hr := Option.some.inj h
    subst hr
    exact uu_iret rfl dX12_token_157
def fn_X12_token  (s : uS) : Option (uS × Int32) := (fn_X12_peek 0 s).bind fun v1 => if 0 ≤ v1 then ((fn_X12_isLetter v1 s).bind fun v4 => if v4 = true then (fb_X12_token_25 s) else (if v1 = 95 then (fb_X12_token_25 s) else (if v1 = 58 then ((fn_X12_peek 1 s).bind fun v25 => (fn_X12_isLetter v25 s).bind fun v27 => if v27 = true then (fb_X12_token_59 s) else ((fn_X12_peek 1 s).bind fun v30 => if v30 = 95 then (fb_X12_token_59 s) else (some (s, (5 : Int32))))) else ((fn_X12_isDigit v1 s).bind fun v9 => if v9 = true then ((fn_X12_digits s).bind fun r23 => some (r23.1, r23.2)) else (if v1 = 34 then ((fn_X12_quoted s).bind fun r21 => some (r21.1, r21.2)) else (if v1 = 59 then (fb_X12_token_151 v1 true s) else (if v1 = 44 then (fb_X12_token_151 v1 true s) else (if v1 = 40 then (fb_X12_token_151 v1 true s) else (if v1 = 41 then (fb_X12_token_151 v1 true s) else (if v1 = 91 then (fb_X12_token_151 v1 true s) else (if v1 = 93 then (fb_X12_token_151 v1 true s) else (if v1 = 123 then (fb_X12_token_151 v1 true s) else (if v1 = 125 then (fb_X12_token_151 v1 true s) else (fb_X12_token_151 v1 false s)))))))))))))) else (some (s, (0 : Int32)))
set_option maxRecDepth 100000 in
set_option maxHeartbeats 4000000 in
theorem xc_X12_token {l : Launch} {D : va_G} {A : Nat → ClassId} {B : Nat} {Z : State → Heap → Prop} {vF : Value} (uk : uK B Z vF)  {s : uS} {r : (uS × Int32)}  (h : fn_X12_token  s = some r) : CU l D A B Z 6 mX12_token s [.ref (B + 1079)] (r.1, some (.int r.2)) := by
  unfold fn_X12_token at h
  refine cu_of rfl uk.1.1 (Nat.le_of_ble_eq_true rfl) ?_
  show GU _ _ _ _ _ _ _ _ _ 0 [(0, .ref (B + 1079))] []
  refine uu_aload_n dX12_token_0 rfl (List.mem_of_getElem? (i := 0) rfl) ?_
  refine uu_iconst (v := 0) dX12_token_1 (by decide) ?_
  obtain ⟨v1, e2, h⟩ := uu_ob h
  refine uu_cv (d1 := 0) (k := 1079) (ci := 12) (T := TX12) (N := 153) (As := [.int 0]) (st := []) (st' := [.int v1]) (xc_X12_peek uk  e2) so_1079.is (by decide) rfl kX12_peek lX12_190 sX12_peek (by decide) (Nat.le_of_ble_eq_true rfl) dX12_token_2 rfl ?_
  refine uu_istore_n dX12_token_5 rfl (by decide) rfl ?_
  refine uu_iload_n dX12_token_6 rfl (List.mem_of_getElem? (i := 0) rfl) ?_
  refine uu_if_ge (tgt := 12) dX12_token_7 (by decide) (fun c3 => ?_) (fun c3 => ?_)
  · replace h := uu_pos c3 h
    refine uu_iload_n dX12_token_12 rfl (List.mem_of_getElem? (i := 0) rfl) ?_
    obtain ⟨v4, e5, h⟩ := uu_ob h
    refine uu_cs (d1 := 0) (As := [.int v1]) (st := []) (st' := [.int (bI v4)]) (xc_X12_isLetter uk  e5) kX12_isLetter lX12_133 sX12_isLetter (by decide) (Nat.le_of_ble_eq_true rfl) dX12_token_13 rfl ?_
    refine uu_ifb_ne (tgt := 25) dX12_token_16 (by decide) (fun c6 => ?_) (fun c6 => ?_)
    · replace h := uu_pos c6 h
      refine uu_lv [1] (lv' := [(0, .ref (B + 1079))]) rfl ?_
      exact xb_X12_token_25 uk  h
    · replace h := uu_neg c6 h
      refine uu_iload_n dX12_token_19 rfl (List.mem_of_getElem? (i := 0) rfl) ?_
      refine uu_bipush (v := 95) dX12_token_20 (by decide) ?_
      refine uu_icmp_ne (tgt := 30) dX12_token_22 (by decide) (fun c7 => ?_) (fun c7 => ?_)
      · replace h := uu_neg c7 h
        refine uu_iload_n dX12_token_30 rfl (List.mem_of_getElem? (i := 0) rfl) ?_
        refine uu_bipush (v := 58) dX12_token_31 (by decide) ?_
        refine uu_icmp_ne (tgt := 75) dX12_token_33 (by decide) (fun c8 => ?_) (fun c8 => ?_)
        · replace h := uu_neg c8 h
          refine uu_iload_n dX12_token_75 rfl (List.mem_of_getElem? (i := 0) rfl) ?_
          obtain ⟨v9, e10, h⟩ := uu_ob h
          refine uu_cs (d1 := 0) (As := [.int v1]) (st := []) (st' := [.int (bI v9)]) (xc_X12_isDigit uk  e10) kX12_isDigit lX12_137 sX12_isDigit (by decide) (Nat.le_of_ble_eq_true rfl) dX12_token_76 rfl ?_
          refine uu_ifb_eq (tgt := 87) dX12_token_79 (by decide) (fun c11 => ?_) (fun c11 => ?_)
          · replace h := uu_neg c11 h
            refine uu_iload_n dX12_token_87 rfl (List.mem_of_getElem? (i := 0) rfl) ?_
            refine uu_bipush (v := 34) dX12_token_88 (by decide) ?_
            refine uu_icmp_ne (tgt := 98) dX12_token_90 (by decide) (fun c12 => ?_) (fun c12 => ?_)
            · replace h := uu_neg c12 h
              refine uu_iload_n dX12_token_98 rfl (List.mem_of_getElem? (i := 0) rfl) ?_
              refine uu_bipush (v := 59) dX12_token_99 (by decide) ?_
              refine uu_icmp_eq (tgt := 146) dX12_token_101 (by decide) (fun c13 => ?_) (fun c13 => ?_)
              · replace h := uu_pos c13 h
                refine uu_iconst (v := 1) dX12_token_146 (by decide) ?_
                refine uu_goto (tgt := 151) dX12_token_147 (by decide) ?_
                refine uu_lv [1, 0] (lv' := [(0, .ref (B + 1079)), (1, .int v1)]) rfl ?_
                exact xb_X12_token_151 uk  h
              · replace h := uu_neg c13 h
                refine uu_iload_n dX12_token_104 rfl (List.mem_of_getElem? (i := 0) rfl) ?_
                refine uu_bipush (v := 44) dX12_token_105 (by decide) ?_
                refine uu_icmp_eq (tgt := 146) dX12_token_107 (by decide) (fun c14 => ?_) (fun c14 => ?_)
                · replace h := uu_pos c14 h
                  refine uu_iconst (v := 1) dX12_token_146 (by decide) ?_
                  refine uu_goto (tgt := 151) dX12_token_147 (by decide) ?_
                  refine uu_lv [1, 0] (lv' := [(0, .ref (B + 1079)), (1, .int v1)]) rfl ?_
                  exact xb_X12_token_151 uk  h
                · replace h := uu_neg c14 h
                  refine uu_iload_n dX12_token_110 rfl (List.mem_of_getElem? (i := 0) rfl) ?_
                  refine uu_bipush (v := 40) dX12_token_111 (by decide) ?_
                  refine uu_icmp_eq (tgt := 146) dX12_token_113 (by decide) (fun c15 => ?_) (fun c15 => ?_)
                  · replace h := uu_pos c15 h
                    refine uu_iconst (v := 1) dX12_token_146 (by decide) ?_
                    refine uu_goto (tgt := 151) dX12_token_147 (by decide) ?_
                    refine uu_lv [1, 0] (lv' := [(0, .ref (B + 1079)), (1, .int v1)]) rfl ?_
                    exact xb_X12_token_151 uk  h
                  · replace h := uu_neg c15 h
                    refine uu_iload_n dX12_token_116 rfl (List.mem_of_getElem? (i := 0) rfl) ?_
                    refine uu_bipush (v := 41) dX12_token_117 (by decide) ?_
                    refine uu_icmp_eq (tgt := 146) dX12_token_119 (by decide) (fun c16 => ?_) (fun c16 => ?_)
                    · replace h := uu_pos c16 h
                      refine uu_iconst (v := 1) dX12_token_146 (by decide) ?_
                      refine uu_goto (tgt := 151) dX12_token_147 (by decide) ?_
                      refine uu_lv [1, 0] (lv' := [(0, .ref (B + 1079)), (1, .int v1)]) rfl ?_
                      exact xb_X12_token_151 uk  h
                    · replace h := uu_neg c16 h
                      refine uu_iload_n dX12_token_122 rfl (List.mem_of_getElem? (i := 0) rfl) ?_
                      refine uu_bipush (v := 91) dX12_token_123 (by decide) ?_
                      refine uu_icmp_eq (tgt := 146) dX12_token_125 (by decide) (fun c17 => ?_) (fun c17 => ?_)
                      · replace h := uu_pos c17 h
                        refine uu_iconst (v := 1) dX12_token_146 (by decide) ?_
                        refine uu_goto (tgt := 151) dX12_token_147 (by decide) ?_
                        refine uu_lv [1, 0] (lv' := [(0, .ref (B + 1079)), (1, .int v1)]) rfl ?_
                        exact xb_X12_token_151 uk  h
                      · replace h := uu_neg c17 h
                        refine uu_iload_n dX12_token_128 rfl (List.mem_of_getElem? (i := 0) rfl) ?_
                        refine uu_bipush (v := 93) dX12_token_129 (by decide) ?_
                        refine uu_icmp_eq (tgt := 146) dX12_token_131 (by decide) (fun c18 => ?_) (fun c18 => ?_)
                        · replace h := uu_pos c18 h
                          refine uu_iconst (v := 1) dX12_token_146 (by decide) ?_
                          refine uu_goto (tgt := 151) dX12_token_147 (by decide) ?_
                          refine uu_lv [1, 0] (lv' := [(0, .ref (B + 1079)), (1, .int v1)]) rfl ?_
                          exact xb_X12_token_151 uk  h
                        · replace h := uu_neg c18 h
                          refine uu_iload_n dX12_token_134 rfl (List.mem_of_getElem? (i := 0) rfl) ?_
                          refine uu_bipush (v := 123) dX12_token_135 (by decide) ?_
                          refine uu_icmp_eq (tgt := 146) dX12_token_137 (by decide) (fun c19 => ?_) (fun c19 => ?_)
                          · replace h := uu_pos c19 h
                            refine uu_iconst (v := 1) dX12_token_146 (by decide) ?_
                            refine uu_goto (tgt := 151) dX12_token_147 (by decide) ?_
                            refine uu_lv [1, 0] (lv' := [(0, .ref (B + 1079)), (1, .int v1)]) rfl ?_
                            exact xb_X12_token_151 uk  h
                          · replace h := uu_neg c19 h
                            refine uu_iload_n dX12_token_140 rfl (List.mem_of_getElem? (i := 0) rfl) ?_
                            refine uu_bipush (v := 125) dX12_token_141 (by decide) ?_
                            refine uu_icmp_ne (tgt := 150) dX12_token_143 (by decide) (fun c20 => ?_) (fun c20 => ?_)
                            · replace h := uu_neg c20 h
                              refine uu_iconst (v := 0) dX12_token_150 (by decide) ?_
                              refine uu_lv [1, 0] (lv' := [(0, .ref (B + 1079)), (1, .int v1)]) rfl ?_
                              exact xb_X12_token_151 uk  h
                            · replace h := uu_pos c20 h
                              refine uu_iconst (v := 1) dX12_token_146 (by decide) ?_
                              refine uu_goto (tgt := 151) dX12_token_147 (by decide) ?_
                              refine uu_lv [1, 0] (lv' := [(0, .ref (B + 1079)), (1, .int v1)]) rfl ?_
                              exact xb_X12_token_151 uk  h
            · replace h := uu_pos c12 h
              refine uu_aload_n dX12_token_93 rfl (List.mem_of_getElem? (i := 1) rfl) ?_
              obtain ⟨r21, e22, h⟩ := uu_ob h
              refine uu_cv (d1 := 1) (k := 1079) (ci := 12) (T := TX12) (N := 153) (As := []) (st := []) (st' := [.int r21.2]) (xc_X12_quoted uk  e22) so_1079.is (by decide) rfl kX12_quoted lX12_221 sX12_quoted (by decide) (Nat.le_of_ble_eq_true rfl) dX12_token_94 rfl ?_
              have hr := Option.some.inj h
              subst hr
              exact uu_iret rfl dX12_token_97
          · replace h := uu_pos c11 h
            refine uu_aload_n dX12_token_82 rfl (List.mem_of_getElem? (i := 1) rfl) ?_
            obtain ⟨r23, e24, h⟩ := uu_ob h
            refine uu_cv (d1 := 2) (k := 1079) (ci := 12) (T := TX12) (N := 153) (As := []) (st := []) (st' := [.int r23.2]) (xc_X12_digits uk  e24) so_1079.is (by decide) rfl kX12_digits lX12_218 sX12_digits (by decide) (Nat.le_of_ble_eq_true rfl) dX12_token_83 rfl ?_
            have hr := Option.some.inj h
            subst hr
            exact uu_iret rfl dX12_token_86
        · replace h := uu_pos c8 h
          refine uu_aload_n dX12_token_36 rfl (List.mem_of_getElem? (i := 1) rfl) ?_
          refine uu_iconst (v := 1) dX12_token_37 (by decide) ?_
          obtain ⟨v25, e26, h⟩ := uu_ob h
          refine uu_cv (d1 := 0) (k := 1079) (ci := 12) (T := TX12) (N := 153) (As := [.int 1]) (st := []) (st' := [.int v25]) (xc_X12_peek uk  e26) so_1079.is (by decide) rfl kX12_peek lX12_190 sX12_peek (by decide) (Nat.le_of_ble_eq_true rfl) dX12_token_38 rfl ?_
          obtain ⟨v27, e28, h⟩ := uu_ob h
          refine uu_cs (d1 := 0) (As := [.int v25]) (st := []) (st' := [.int (bI v27)]) (xc_X12_isLetter uk  e28) kX12_isLetter lX12_133 sX12_isLetter (by decide) (Nat.le_of_ble_eq_true rfl) dX12_token_41 rfl ?_
          refine uu_ifb_ne (tgt := 59) dX12_token_44 (by decide) (fun c29 => ?_) (fun c29 => ?_)
          · replace h := uu_pos c29 h
            refine uu_lv [1] (lv' := [(0, .ref (B + 1079))]) rfl ?_
            exact xb_X12_token_59 uk  h
          · replace h := uu_neg c29 h
            refine uu_aload_n dX12_token_47 rfl (List.mem_of_getElem? (i := 1) rfl) ?_
            refine uu_iconst (v := 1) dX12_token_48 (by decide) ?_
            obtain ⟨v30, e31, h⟩ := uu_ob h
            refine uu_cv (d1 := 0) (k := 1079) (ci := 12) (T := TX12) (N := 153) (As := [.int 1]) (st := []) (st' := [.int v30]) (xc_X12_peek uk  e31) so_1079.is (by decide) rfl kX12_peek lX12_190 sX12_peek (by decide) (Nat.le_of_ble_eq_true rfl) dX12_token_49 rfl ?_
            refine uu_bipush (v := 95) dX12_token_52 (by decide) ?_
            refine uu_icmp_eq (tgt := 59) dX12_token_54 (by decide) (fun c32 => ?_) (fun c32 => ?_)
            · replace h := uu_pos c32 h
              refine uu_lv [1] (lv' := [(0, .ref (B + 1079))]) rfl ?_
              exact xb_X12_token_59 uk  h
            · replace h := uu_neg c32 h
              refine uu_iconst (v := 5) dX12_token_57 (by decide) ?_
              have hr := Option.some.inj h
              subst hr
              exact uu_iret rfl dX12_token_58
      · replace h := uu_pos c7 h
        refine uu_lv [1] (lv' := [(0, .ref (B + 1079))]) rfl ?_
        exact xb_X12_token_25 uk  h
  · replace h := uu_neg c3 h
    refine uu_iconst (v := 0) dX12_token_10 (by decide) ?_
    have hr := Option.some.inj h
    subst hr
    exact uu_iret rfl dX12_token_11
abbrev mX12_fail : hM := (yX12_fail, cX12_fail, 2, none)
theorem dX12_fail_12 : decode cX12_fail 12 = .ok (.aload_n 0, 1) := by decide +kernel
theorem dX12_fail_13 : decode cX12_fail 13 = .ok (.iconst 0, 1) := by decide +kernel
theorem fX12_205 : h_fl RX12 205 12 31 RX12 TX12 153 := ⟨rfl, by decide, inX12, h_t11 232 rfl rfl⟩
theorem dX12_fail_14 : decode cX12_fail 14 = .ok (.putfield 205, 3) := by decide +kernel
theorem dX12_fail_17 : decode cX12_fail 17 = .ok (.aload_n 0, 1) := by decide +kernel
theorem dX12_fail_18 : decode cX12_fail 18 = .ok (.aload_n 0, 1) := by decide +kernel
theorem dX12_fail_19 : decode cX12_fail 19 = .ok (.getfield 184, 3) := by decide +kernel
theorem dX12_fail_22 : decode cX12_fail 22 = .ok (.putfield 181, 3) := by decide +kernel
theorem dX12_fail_25 : decode cX12_fail 25 = .ok (.return_, 1) := by decide +kernel
theorem dX12_fail_0 : decode cX12_fail 0 = .ok (.aload_n 0, 1) := by decide +kernel
theorem fX12_193 : h_fl RX12 193 12 40 RX12 TX12 153 := ⟨rfl, by decide, inX12, h_t12 1 rfl rfl⟩
theorem dX12_fail_1 : decode cX12_fail 1 = .ok (.getfield 193, 3) := by decide +kernel
theorem dX12_fail_4 : decode cX12_fail 4 = .ok (.ifCond .ge 8, 3) := by decide +kernel
theorem dX12_fail_7 : decode cX12_fail 7 = .ok (.aload_n 0, 1) := by decide +kernel
theorem dX12_fail_8 : decode cX12_fail 8 = .ok (.iload_n 1, 1) := by decide +kernel
theorem dX12_fail_9 : decode cX12_fail 9 = .ok (.putfield 193, 3) := by decide +kernel
def fb_X12_fail_12   (s : uS) : Option uS := some (wI (wI s 1079 31 0) 1079 30 ((wI s 1079 31 0).I 1079 29))
set_option maxRecDepth 100000 in
set_option maxHeartbeats 4000000 in
theorem xb_X12_fail_12 {l : Launch} {D : va_G} {A : Nat → ClassId} {B : Nat} {Z : State → Heap → Prop} {vF : Value} (uk : uK B Z vF)    {s : uS} {r : uS}  (h : fb_X12_fail_12   s = some r) : GU l D A B Z mX12_fail 0 (r, none) s 12 [(0, .ref (B + 1079))] [] := by
  unfold fb_X12_fail_12 at h
  refine uu_aload_n dX12_fail_12 rfl (List.mem_of_getElem? (i := 0) rfl) ?_
  refine uu_iconst (v := 0) dX12_fail_13 (by decide) ?_
  refine uu_puti (ft := .int) (ci := 12) (N := 153) fX12_205 ptX12 (Or.inl rfl) (by decide) so_1079.is (by decide) (by decide) (by decide +kernel) rfl rfl dX12_fail_14 ?_
  refine uu_aload_n dX12_fail_17 rfl (List.mem_of_getElem? (i := 0) rfl) ?_
  refine uu_aload_n dX12_fail_18 rfl (List.mem_of_getElem? (i := 0) rfl) ?_
  refine uu_geti (ci := 12) (N := 153) fX12_184 (by decide) so_1079.is (by decide) (by decide) dX12_fail_19 ?_
  refine uu_puti (ft := .int) (ci := 12) (N := 153) fX12_181 ptX12 (Or.inl rfl) (by decide) so_1079.is (by decide) (by decide) (by decide +kernel) rfl rfl dX12_fail_22 ?_
  have hr := Option.some.inj h
  subst hr
  exact uu_vret rfl dX12_fail_25
def fn_X12_fail (x1 : Int32) (s : uS) : Option uS := if 0 ≤ (s.I 1079 40) then (fb_X12_fail_12 s) else (fb_X12_fail_12 (wI s 1079 40 x1))
set_option maxRecDepth 100000 in
set_option maxHeartbeats 4000000 in
theorem xc_X12_fail {l : Launch} {D : va_G} {A : Nat → ClassId} {B : Nat} {Z : State → Heap → Prop} {vF : Value} (uk : uK B Z vF) {x1 : Int32} {s : uS} {r : uS}  (h : fn_X12_fail x1 s = some r) : CU l D A B Z 0 mX12_fail s [.ref (B + 1079), .int x1] (r, none) := by
  unfold fn_X12_fail at h
  refine cu_of rfl uk.1.1 (Nat.le_of_ble_eq_true rfl) ?_
  show GU _ _ _ _ _ _ _ _ _ 0 [(0, .ref (B + 1079)), (1, .int x1)] []
  refine uu_aload_n dX12_fail_0 rfl (List.mem_of_getElem? (i := 0) rfl) ?_
  refine uu_geti (ci := 12) (N := 153) fX12_193 (by decide) so_1079.is (by decide) (by decide) dX12_fail_1 ?_
  refine uu_if_ge (tgt := 12) dX12_fail_4 (by decide) (fun c1 => ?_) (fun c1 => ?_)
  · replace h := uu_pos c1 h
    refine uu_lv [0] (lv' := [(0, .ref (B + 1079))]) rfl ?_
    exact xb_X12_fail_12 uk  h
  · replace h := uu_neg c1 h
    refine uu_aload_n dX12_fail_7 rfl (List.mem_of_getElem? (i := 0) rfl) ?_
    refine uu_iload_n dX12_fail_8 rfl (List.mem_of_getElem? (i := 1) rfl) ?_
    refine uu_puti (ft := .int) (ci := 12) (N := 153) fX12_193 ptX12 (Or.inl rfl) (by decide) so_1079.is (by decide) (by decide) (by decide +kernel) rfl rfl dX12_fail_9 ?_
    refine uu_lv [0] (lv' := [(0, .ref (B + 1079))]) rfl ?_
    exact xb_X12_fail_12 uk  h
abbrev mX12_next : hM := (yX12_next, cX12_next, 2, none)
theorem dX12_next_34 : decode cX12_next 34 = .ok (.putfield 205, 3) := by decide +kernel
theorem dX12_next_37 : decode cX12_next 37 = .ok (.aload_n 0, 1) := by decide +kernel
theorem dX12_next_38 : decode cX12_next 38 = .ok (.getfield 205, 3) := by decide +kernel
theorem dX12_next_41 : decode cX12_next 41 = .ok (.iconst 5, 1) := by decide +kernel
theorem dX12_next_42 : decode cX12_next 42 = .ok (.if_icmp .ne 11, 3) := by decide +kernel
theorem dX12_next_53 : decode cX12_next 53 = .ok (.return_, 1) := by decide +kernel
theorem dX12_next_45 : decode cX12_next 45 = .ok (.aload_n 0, 1) := by decide +kernel
theorem dX12_next_46 : decode cX12_next 46 = .ok (.aload_n 0, 1) := by decide +kernel
theorem fX12_199 : h_fl RX12 199 12 32 RX12 TX12 153 := ⟨rfl, by decide, inX12, h_t11 233 rfl rfl⟩
theorem dX12_next_47 : decode cX12_next 47 = .ok (.getfield 199, 3) := by decide +kernel
theorem kX12_fail : h_ml mX12_fail 1 := ⟨h_t8 130 rfl rfl, h_t1 16 rfl rfl, ⟨by decide, by decide, by decide +kernel⟩, by decide⟩
theorem lX12_208 : Cond.methodLink RX12 208 mX12_fail.1 ∈ lw_g := h_t8 127 rfl rfl
theorem sX12_fail : Cond.instanceMethod mX12_fail.1 ∈ lw_g ∧ Cond.selects mX12_fail.1.cls mX12_fail.1 mX12_fail.1 ∈ lw_g := ⟨h_t8 129 rfl rfl, h_ins 131 rfl⟩
theorem dX12_next_50 : decode cX12_next 50 = .ok (.invokevirtual 208, 3) := by decide +kernel
theorem dX12_next_0 : decode cX12_next 0 = .ok (.aload_n 0, 1) := by decide +kernel
theorem dX12_next_1 : decode cX12_next 1 = .ok (.getfield 193, 3) := by decide +kernel
theorem dX12_next_4 : decode cX12_next 4 = .ok (.ifCond .lt 4, 3) := by decide +kernel
theorem dX12_next_8 : decode cX12_next 8 = .ok (.aload_n 0, 1) := by decide +kernel
theorem kX12_skip : h_ml mX12_skip 0 := ⟨h_t8 68 rfl rfl, h_t1 16 rfl rfl, ⟨by decide, by decide, by decide +kernel⟩, by decide⟩
theorem lX12_196 : Cond.methodLink RX12 196 mX12_skip.1 ∈ lw_g := h_t8 65 rfl rfl
theorem sX12_skip : Cond.instanceMethod mX12_skip.1 ∈ lw_g ∧ Cond.selects mX12_skip.1.cls mX12_skip.1 mX12_skip.1 ∈ lw_g := ⟨h_t8 67 rfl rfl, h_ins 120 rfl⟩
theorem dX12_next_9 : decode cX12_next 9 = .ok (.invokevirtual 196, 3) := by decide +kernel
theorem dX12_next_12 : decode cX12_next 12 = .ok (.istore_n 1, 1) := by decide +kernel
theorem dX12_next_13 : decode cX12_next 13 = .ok (.aload_n 0, 1) := by decide +kernel
theorem dX12_next_14 : decode cX12_next 14 = .ok (.aload_n 0, 1) := by decide +kernel
theorem dX12_next_15 : decode cX12_next 15 = .ok (.getfield 181, 3) := by decide +kernel
theorem dX12_next_18 : decode cX12_next 18 = .ok (.putfield 199, 3) := by decide +kernel
theorem dX12_next_21 : decode cX12_next 21 = .ok (.aload_n 0, 1) := by decide +kernel
theorem dX12_next_22 : decode cX12_next 22 = .ok (.iload_n 1, 1) := by decide +kernel
theorem dX12_next_23 : decode cX12_next 23 = .ok (.ifCond .eq 10, 3) := by decide +kernel
theorem dX12_next_33 : decode cX12_next 33 = .ok (.iconst 5, 1) := by decide +kernel
theorem dX12_next_26 : decode cX12_next 26 = .ok (.aload_n 0, 1) := by decide +kernel
theorem kX12_token : h_ml mX12_token 0 := ⟨h_t8 76 rfl rfl, h_t1 16 rfl rfl, ⟨by decide, by decide, by decide +kernel⟩, by decide⟩
theorem lX12_202 : Cond.methodLink RX12 202 mX12_token.1 ∈ lw_g := h_t8 73 rfl rfl
theorem sX12_token : Cond.instanceMethod mX12_token.1 ∈ lw_g ∧ Cond.selects mX12_token.1.cls mX12_token.1 mX12_token.1 ∈ lw_g := ⟨h_t8 75 rfl rfl, h_ins 122 rfl⟩
theorem dX12_next_27 : decode cX12_next 27 = .ok (.invokevirtual 202, 3) := by decide +kernel
theorem dX12_next_30 : decode cX12_next 30 = .ok (.goto 4, 3) := by decide +kernel
theorem dX12_next_7 : decode cX12_next 7 = .ok (.return_, 1) := by decide +kernel
def fb_X12_next_34  (xs0 : Int32) (s : uS) : Option uS := if ((wI s 1079 31 xs0).I 1079 31) = 5 then ((fn_X12_fail ((wI s 1079 31 xs0).I 1079 32) (wI s 1079 31 xs0)).bind fun s2 => some s2) else (some (wI s 1079 31 xs0))
set_option maxRecDepth 100000 in
set_option maxHeartbeats 4000000 in
theorem xb_X12_next_34 {l : Launch} {D : va_G} {A : Nat → ClassId} {B : Nat} {Z : State → Heap → Prop} {vF : Value} (uk : uK B Z vF)   {xs0 : Int32} {s : uS} {r : uS}  (h : fb_X12_next_34  xs0 s = some r) : GU l D A B Z mX12_next 7 (r, none) s 34 [(0, .ref (B + 1079))] [.int xs0, .ref (B + 1079)] := by
  unfold fb_X12_next_34 at h
  refine uu_puti (ft := .int) (ci := 12) (N := 153) fX12_205 ptX12 (Or.inl rfl) (by decide) so_1079.is (by decide) (by decide) (by decide +kernel) rfl rfl dX12_next_34 ?_
  refine uu_aload_n dX12_next_37 rfl (List.mem_of_getElem? (i := 0) rfl) ?_
  refine uu_geti (ci := 12) (N := 153) fX12_205 (by decide) so_1079.is (by decide) (by decide) dX12_next_38 ?_
  refine uu_iconst (v := 5) dX12_next_41 (by decide) ?_
  refine uu_icmp_ne (tgt := 53) dX12_next_42 (by decide) (fun c1 => ?_) (fun c1 => ?_)
  · replace h := uu_neg c1 h
    have hr := Option.some.inj h
    subst hr
    exact uu_vret rfl dX12_next_53
  · replace h := uu_pos c1 h
    refine uu_aload_n dX12_next_45 rfl (List.mem_of_getElem? (i := 0) rfl) ?_
    refine uu_aload_n dX12_next_46 rfl (List.mem_of_getElem? (i := 0) rfl) ?_
    refine uu_geti (ci := 12) (N := 153) fX12_199 (by decide) so_1079.is (by decide) (by decide) dX12_next_47 ?_
    obtain ⟨s2, e3, h⟩ := uu_ob h
    refine uu_cv (d1 := 0) (k := 1079) (ci := 12) (T := TX12) (N := 153) (As := [.int ((wI s 1079 31 xs0).I 1079 32)]) (st := []) (st' := []) (xc_X12_fail uk  e3) so_1079.is (by decide) rfl kX12_fail lX12_208 sX12_fail (by decide) (Nat.le_of_ble_eq_true rfl) dX12_next_50 rfl ?_
    have hr := Option.some.inj h
    subst hr
    exact uu_vret rfl dX12_next_53
def fn_X12_next  (s : uS) : Option uS := if (s.I 1079 40) < 0 then ((fn_X12_skip s).bind fun r2 => if r2.2 = true then ((fn_X12_token (wI r2.1 1079 32 (r2.1.I 1079 30))).bind fun r5 => fb_X12_next_34 r5.2 r5.1) else (fb_X12_next_34 5 (wI r2.1 1079 32 (r2.1.I 1079 30)))) else (some s)
set_option maxRecDepth 100000 in
set_option maxHeartbeats 4000000 in
theorem xc_X12_next {l : Launch} {D : va_G} {A : Nat → ClassId} {B : Nat} {Z : State → Heap → Prop} {vF : Value} (uk : uK B Z vF)  {s : uS} {r : uS}  (h : fn_X12_next  s = some r) : CU l D A B Z 7 mX12_next s [.ref (B + 1079)] (r, none) := by
  unfold fn_X12_next at h
  refine cu_of rfl uk.1.1 (Nat.le_of_ble_eq_true rfl) ?_
  show GU _ _ _ _ _ _ _ _ _ 0 [(0, .ref (B + 1079))] []
  refine uu_aload_n dX12_next_0 rfl (List.mem_of_getElem? (i := 0) rfl) ?_
  refine uu_geti (ci := 12) (N := 153) fX12_193 (by decide) so_1079.is (by decide) (by decide) dX12_next_1 ?_
  refine uu_if_lt (tgt := 8) dX12_next_4 (by decide) (fun c1 => ?_) (fun c1 => ?_)
  · replace h := uu_pos c1 h
    refine uu_aload_n dX12_next_8 rfl (List.mem_of_getElem? (i := 0) rfl) ?_
    obtain ⟨r2, e3, h⟩ := uu_ob h
    refine uu_cv (d1 := 1) (k := 1079) (ci := 12) (T := TX12) (N := 153) (As := []) (st := []) (st' := [.int (bI r2.2)]) (xc_X12_skip uk  e3) so_1079.is (by decide) rfl kX12_skip lX12_196 sX12_skip (by decide) (Nat.le_of_ble_eq_true rfl) dX12_next_9 rfl ?_
    refine uu_istore_n dX12_next_12 rfl (by decide) rfl ?_
    refine uu_aload_n dX12_next_13 rfl (List.mem_of_getElem? (i := 1) rfl) ?_
    refine uu_aload_n dX12_next_14 rfl (List.mem_of_getElem? (i := 1) rfl) ?_
    refine uu_geti (ci := 12) (N := 153) fX12_181 (by decide) so_1079.is (by decide) (by decide) dX12_next_15 ?_
    refine uu_puti (ft := .int) (ci := 12) (N := 153) fX12_199 ptX12 (Or.inl rfl) (by decide) so_1079.is (by decide) (by decide) (by decide +kernel) rfl rfl dX12_next_18 ?_
    refine uu_aload_n dX12_next_21 rfl (List.mem_of_getElem? (i := 1) rfl) ?_
    refine uu_iload_n dX12_next_22 rfl (List.mem_of_getElem? (i := 0) rfl) ?_
    refine uu_ifb_eq (tgt := 33) dX12_next_23 (by decide) (fun c4 => ?_) (fun c4 => ?_)
    · replace h := uu_neg c4 h
      refine uu_iconst (v := 5) dX12_next_33 (by decide) ?_
      refine uu_lv [1] (lv' := [(0, .ref (B + 1079))]) rfl ?_
      exact xb_X12_next_34 uk  h
    · replace h := uu_pos c4 h
      refine uu_aload_n dX12_next_26 rfl (List.mem_of_getElem? (i := 1) rfl) ?_
      obtain ⟨r5, e6, h⟩ := uu_ob h
      refine uu_cv (d1 := 6) (k := 1079) (ci := 12) (T := TX12) (N := 153) (As := []) (st := [.ref (B + 1079)]) (st' := [.int r5.2, .ref (B + 1079)]) (xc_X12_token uk  e6) so_1079.is (by decide) rfl kX12_token lX12_202 sX12_token (by decide) (Nat.le_of_ble_eq_true rfl) dX12_next_27 rfl ?_
      refine uu_goto (tgt := 34) dX12_next_30 (by decide) ?_
      refine uu_lv [1] (lv' := [(0, .ref (B + 1079))]) rfl ?_
      exact xb_X12_next_34 uk  h
  · replace h := uu_neg c1 h
    have hr := Option.some.inj h
    subst hr
    exact uu_vret rfl dX12_next_7
abbrev mX12_is : hM := (yX12_is, cX12_is, 2, (some (.boolean)))
theorem dX12_is_0 : decode cX12_is 0 = .ok (.aload_n 0, 1) := by decide +kernel
theorem dX12_is_1 : decode cX12_is 1 = .ok (.getfield 193, 3) := by decide +kernel
theorem dX12_is_4 : decode cX12_is 4 = .ok (.ifCond .ge 15, 3) := by decide +kernel
theorem dX12_is_19 : decode cX12_is 19 = .ok (.iconst 0, 1) := by decide +kernel
theorem dX12_is_20 : decode cX12_is 20 = .ok (.ireturn, 1) := by decide +kernel
theorem dX12_is_7 : decode cX12_is 7 = .ok (.aload_n 0, 1) := by decide +kernel
theorem dX12_is_8 : decode cX12_is 8 = .ok (.getfield 205, 3) := by decide +kernel
theorem dX12_is_11 : decode cX12_is 11 = .ok (.iload_n 1, 1) := by decide +kernel
theorem dX12_is_12 : decode cX12_is 12 = .ok (.if_icmp .ne 7, 3) := by decide +kernel
theorem dX12_is_15 : decode cX12_is 15 = .ok (.iconst 1, 1) := by decide +kernel
theorem dX12_is_16 : decode cX12_is 16 = .ok (.goto 4, 3) := by decide +kernel
def fn_X12_is (x1 : Int32) (s : uS) : Option Bool := if 0 ≤ (s.I 1079 40) then (some false) else (if (s.I 1079 31) = x1 then (some true) else (some false))
set_option maxRecDepth 100000 in
set_option maxHeartbeats 4000000 in
theorem xc_X12_is {l : Launch} {D : va_G} {A : Nat → ClassId} {B : Nat} {Z : State → Heap → Prop} {vF : Value} (uk : uK B Z vF) {x1 : Int32} {s : uS} {r : Bool}  (h : fn_X12_is x1 s = some r) : CU l D A B Z 0 mX12_is s [.ref (B + 1079), .int x1] (s, some (.int (bI r))) := by
  unfold fn_X12_is at h
  refine cu_of rfl uk.1.1 (Nat.le_of_ble_eq_true rfl) ?_
  show GU _ _ _ _ _ _ _ _ _ 0 [(0, .ref (B + 1079)), (1, .int x1)] []
  refine uu_aload_n dX12_is_0 rfl (List.mem_of_getElem? (i := 0) rfl) ?_
  refine uu_geti (ci := 12) (N := 153) fX12_193 (by decide) so_1079.is (by decide) (by decide) dX12_is_1 ?_
  refine uu_if_ge (tgt := 19) dX12_is_4 (by decide) (fun c1 => ?_) (fun c1 => ?_)
  · replace h := uu_pos c1 h
    refine uu_iconst (v := 0) dX12_is_19 (by decide) ?_
    have hr := Option.some.inj h
    subst hr
    exact uu_zret (x := bI false) rfl (bI_z _) dX12_is_20
  · replace h := uu_neg c1 h
    refine uu_aload_n dX12_is_7 rfl (List.mem_of_getElem? (i := 0) rfl) ?_
    refine uu_geti (ci := 12) (N := 153) fX12_205 (by decide) so_1079.is (by decide) (by decide) dX12_is_8 ?_
    refine uu_iload_n dX12_is_11 rfl (List.mem_of_getElem? (i := 1) rfl) ?_
    refine uu_icmp_ne (tgt := 19) dX12_is_12 (by decide) (fun c2 => ?_) (fun c2 => ?_)
    · replace h := uu_neg c2 h
      refine uu_iconst (v := 0) dX12_is_19 (by decide) ?_
      have hr := Option.some.inj h
      subst hr
      exact uu_zret (x := bI false) rfl (bI_z _) dX12_is_20
    · replace h := uu_pos c2 h
      refine uu_iconst (v := 1) dX12_is_15 (by decide) ?_
      refine uu_goto (tgt := 20) dX12_is_16 (by decide) ?_
      have hr := Option.some.inj h
      subst hr
      exact uu_zret (x := bI true) rfl (bI_z _) dX12_is_20
abbrev mX12_isSign : hM := (yX12_isSign, cX12_isSign, 2, (some (.boolean)))
theorem dX12_isSign_0 : decode cX12_isSign 0 = .ok (.aload_n 0, 1) := by decide +kernel
theorem dX12_isSign_1 : decode cX12_isSign 1 = .ok (.bipush 100, 2) := by decide +kernel
theorem dX12_isSign_3 : decode cX12_isSign 3 = .ok (.iload_n 1, 1) := by decide +kernel
theorem dX12_isSign_4 : decode cX12_isSign 4 = .ok (.iadd, 1) := by decide +kernel
theorem kX12_is : h_ml mX12_is 1 := ⟨h_t8 139 rfl rfl, h_t1 16 rfl rfl, ⟨by decide, by decide, by decide +kernel⟩, by decide⟩
theorem lX12_273 : Cond.methodLink RX12 273 mX12_is.1 ∈ lw_g := h_t8 136 rfl rfl
theorem sX12_is : Cond.instanceMethod mX12_is.1 ∈ lw_g ∧ Cond.selects mX12_is.1.cls mX12_is.1 mX12_is.1 ∈ lw_g := ⟨h_t8 138 rfl rfl, h_ins 133 rfl⟩
theorem dX12_isSign_5 : decode cX12_isSign 5 = .ok (.invokevirtual 273, 3) := by decide +kernel
theorem dX12_isSign_8 : decode cX12_isSign 8 = .ok (.ireturn, 1) := by decide +kernel
def fn_X12_isSign (x1 : Int32) (s : uS) : Option Bool := (fn_X12_is ((100 : Int32) + x1) s).bind fun v1 => some v1
set_option maxRecDepth 100000 in
set_option maxHeartbeats 4000000 in
theorem xc_X12_isSign {l : Launch} {D : va_G} {A : Nat → ClassId} {B : Nat} {Z : State → Heap → Prop} {vF : Value} (uk : uK B Z vF) {x1 : Int32} {s : uS} {r : Bool}  (h : fn_X12_isSign x1 s = some r) : CU l D A B Z 1 mX12_isSign s [.ref (B + 1079), .int x1] (s, some (.int (bI r))) := by
  unfold fn_X12_isSign at h
  refine cu_of rfl uk.1.1 (Nat.le_of_ble_eq_true rfl) ?_
  show GU _ _ _ _ _ _ _ _ _ 0 [(0, .ref (B + 1079)), (1, .int x1)] []
  refine uu_aload_n dX12_isSign_0 rfl (List.mem_of_getElem? (i := 0) rfl) ?_
  refine uu_bipush (v := 100) dX12_isSign_1 (by decide) ?_
  refine uu_iload_n dX12_isSign_3 rfl (List.mem_of_getElem? (i := 1) rfl) ?_
  refine uu_iadd dX12_isSign_4 ?_
  obtain ⟨v1, e2, h⟩ := uu_ob h
  refine uu_cv (d1 := 0) (k := 1079) (ci := 12) (T := TX12) (N := 153) (As := [.int ((100 : Int32) + x1)]) (st := []) (st' := [.int (bI v1)]) (xc_X12_is uk  e2) so_1079.is (by decide) rfl kX12_is lX12_273 sX12_is (by decide) (Nat.le_of_ble_eq_true rfl) dX12_isSign_5 rfl ?_
  have hr := Option.some.inj h
  subst hr
  exact uu_zret (x := bI v1) rfl (bI_z _) dX12_isSign_8
abbrev mX12_isWord : hM := (yX12_isWord, cX12_isWord, 2, (some (.boolean)))
theorem dX12_isWord_0 : decode cX12_isWord 0 = .ok (.aload_n 0, 1) := by decide +kernel
theorem dX12_isWord_1 : decode cX12_isWord 1 = .ok (.iconst 1, 1) := by decide +kernel
theorem dX12_isWord_2 : decode cX12_isWord 2 = .ok (.invokevirtual 273, 3) := by decide +kernel
theorem dX12_isWord_5 : decode cX12_isWord 5 = .ok (.ifCond .eq 15, 3) := by decide +kernel
theorem dX12_isWord_20 : decode cX12_isWord 20 = .ok (.iconst 0, 1) := by decide +kernel
theorem dX12_isWord_21 : decode cX12_isWord 21 = .ok (.ireturn, 1) := by decide +kernel
theorem dX12_isWord_8 : decode cX12_isWord 8 = .ok (.aload_n 0, 1) := by decide +kernel
theorem dX12_isWord_9 : decode cX12_isWord 9 = .ok (.aload_n 1, 1) := by decide +kernel
theorem dX12_isWord_10 : decode cX12_isWord 10 = .ok (.invokevirtual 235, 3) := by decide +kernel
theorem dX12_isWord_13 : decode cX12_isWord 13 = .ok (.ifCond .eq 7, 3) := by decide +kernel
theorem dX12_isWord_16 : decode cX12_isWord 16 = .ok (.iconst 1, 1) := by decide +kernel
theorem dX12_isWord_17 : decode cX12_isWord 17 = .ok (.goto 4, 3) := by decide +kernel
def fn_X12_isWord (w1 : List Nat) (s : uS) : Option Bool := (fn_X12_is 1 s).bind fun v1 => if v1 = true then ((fn_X12_wordIs w1 s).bind fun v4 => if v4 = true then (some true) else (some false)) else (some false)
set_option maxRecDepth 100000 in
set_option maxHeartbeats 4000000 in
theorem xc_X12_isWord {l : Launch} {D : va_G} {A : Nat → ClassId} {B : Nat} {Z : State → Heap → Prop} {vF : Value} (uk : uK B Z vF) {w1 : List Nat} {s : uS} {r : Bool} {qw1 pw1 : Nat} (hw1 : uStr B Z qw1 pw1 w1) (h : fn_X12_isWord w1 s = some r) : CU l D A B Z 5 mX12_isWord s [.ref (B + 1079), .ref qw1] (s, some (.int (bI r))) := by
  unfold fn_X12_isWord at h
  refine cu_of rfl uk.1.1 (Nat.le_of_ble_eq_true rfl) ?_
  show GU _ _ _ _ _ _ _ _ _ 0 [(0, .ref (B + 1079)), (1, .ref qw1)] []
  refine uu_aload_n dX12_isWord_0 rfl (List.mem_of_getElem? (i := 0) rfl) ?_
  refine uu_iconst (v := 1) dX12_isWord_1 (by decide) ?_
  obtain ⟨v1, e2, h⟩ := uu_ob h
  refine uu_cv (d1 := 0) (k := 1079) (ci := 12) (T := TX12) (N := 153) (As := [.int 1]) (st := []) (st' := [.int (bI v1)]) (xc_X12_is uk  e2) so_1079.is (by decide) rfl kX12_is lX12_273 sX12_is (by decide) (Nat.le_of_ble_eq_true rfl) dX12_isWord_2 rfl ?_
  refine uu_ifb_eq (tgt := 20) dX12_isWord_5 (by decide) (fun c3 => ?_) (fun c3 => ?_)
  · replace h := uu_neg c3 h
    refine uu_iconst (v := 0) dX12_isWord_20 (by decide) ?_
    have hr := Option.some.inj h
    subst hr
    exact uu_zret (x := bI false) rfl (bI_z _) dX12_isWord_21
  · replace h := uu_pos c3 h
    refine uu_aload_n dX12_isWord_8 rfl (List.mem_of_getElem? (i := 0) rfl) ?_
    refine uu_aload_n dX12_isWord_9 rfl (List.mem_of_getElem? (i := 1) rfl) ?_
    obtain ⟨v4, e5, h⟩ := uu_ob h
    refine uu_cv (d1 := 4) (k := 1079) (ci := 12) (T := TX12) (N := 153) (As := [.ref qw1]) (st := []) (st' := [.int (bI v4)]) (xc_X12_wordIs uk hw1 e5) so_1079.is (by decide) rfl kX12_wordIs lX12_235 sX12_wordIs (by decide) (Nat.le_of_ble_eq_true rfl) dX12_isWord_10 rfl ?_
    refine uu_ifb_eq (tgt := 20) dX12_isWord_13 (by decide) (fun c6 => ?_) (fun c6 => ?_)
    · replace h := uu_neg c6 h
      refine uu_iconst (v := 0) dX12_isWord_20 (by decide) ?_
      have hr := Option.some.inj h
      subst hr
      exact uu_zret (x := bI false) rfl (bI_z _) dX12_isWord_21
    · replace h := uu_pos c6 h
      refine uu_iconst (v := 1) dX12_isWord_16 (by decide) ?_
      refine uu_goto (tgt := 21) dX12_isWord_17 (by decide) ?_
      have hr := Option.some.inj h
      subst hr
      exact uu_zret (x := bI true) rfl (bI_z _) dX12_isWord_21
abbrev mX12_take : hM := (yX12_take, cX12_take, 2, none)
theorem dX12_take_0 : decode cX12_take 0 = .ok (.aload_n 0, 1) := by decide +kernel
theorem dX12_take_1 : decode cX12_take 1 = .ok (.iload_n 1, 1) := by decide +kernel
theorem kX12_isSign : h_ml mX12_isSign 1 := ⟨h_t8 147 rfl rfl, h_t1 16 rfl rfl, ⟨by decide, by decide, by decide +kernel⟩, by decide⟩
theorem lX12_276 : Cond.methodLink RX12 276 mX12_isSign.1 ∈ lw_g := h_t8 144 rfl rfl
theorem sX12_isSign : Cond.instanceMethod mX12_isSign.1 ∈ lw_g ∧ Cond.selects mX12_isSign.1.cls mX12_isSign.1 mX12_isSign.1 ∈ lw_g := ⟨h_t8 146 rfl rfl, h_ins 135 rfl⟩
theorem dX12_take_2 : decode cX12_take 2 = .ok (.invokevirtual 276, 3) := by decide +kernel
theorem dX12_take_5 : decode cX12_take 5 = .ok (.ifCond .eq 10, 3) := by decide +kernel
theorem dX12_take_15 : decode cX12_take 15 = .ok (.aload_n 0, 1) := by decide +kernel
theorem dX12_take_16 : decode cX12_take 16 = .ok (.aload_n 0, 1) := by decide +kernel
theorem dX12_take_17 : decode cX12_take 17 = .ok (.getfield 199, 3) := by decide +kernel
theorem dX12_take_20 : decode cX12_take 20 = .ok (.invokevirtual 208, 3) := by decide +kernel
theorem dX12_take_23 : decode cX12_take 23 = .ok (.return_, 1) := by decide +kernel
theorem dX12_take_8 : decode cX12_take 8 = .ok (.aload_n 0, 1) := by decide +kernel
theorem kX12_next : h_ml mX12_next 0 := ⟨h_t8 64 rfl rfl, h_t1 16 rfl rfl, ⟨by decide, by decide, by decide +kernel⟩, by decide⟩
theorem lX12_279 : Cond.methodLink RX12 279 mX12_next.1 ∈ lw_g := h_t8 61 rfl rfl
theorem sX12_next : Cond.instanceMethod mX12_next.1 ∈ lw_g ∧ Cond.selects mX12_next.1.cls mX12_next.1 mX12_next.1 ∈ lw_g := ⟨h_t8 63 rfl rfl, h_ins 119 rfl⟩
theorem dX12_take_9 : decode cX12_take 9 = .ok (.invokevirtual 279, 3) := by decide +kernel
theorem dX12_take_12 : decode cX12_take 12 = .ok (.goto 11, 3) := by decide +kernel
def fn_X12_take (x1 : Int32) (s : uS) : Option uS := (fn_X12_isSign x1 s).bind fun v1 => if v1 = true then ((fn_X12_next s).bind fun s6 => some s6) else ((fn_X12_fail (s.I 1079 32) s).bind fun s4 => some s4)
set_option maxRecDepth 100000 in
set_option maxHeartbeats 4000000 in
theorem xc_X12_take {l : Launch} {D : va_G} {A : Nat → ClassId} {B : Nat} {Z : State → Heap → Prop} {vF : Value} (uk : uK B Z vF) {x1 : Int32} {s : uS} {r : uS}  (h : fn_X12_take x1 s = some r) : CU l D A B Z 8 mX12_take s [.ref (B + 1079), .int x1] (r, none) := by
  unfold fn_X12_take at h
  refine cu_of rfl uk.1.1 (Nat.le_of_ble_eq_true rfl) ?_
  show GU _ _ _ _ _ _ _ _ _ 0 [(0, .ref (B + 1079)), (1, .int x1)] []
  refine uu_aload_n dX12_take_0 rfl (List.mem_of_getElem? (i := 0) rfl) ?_
  refine uu_iload_n dX12_take_1 rfl (List.mem_of_getElem? (i := 1) rfl) ?_
  obtain ⟨v1, e2, h⟩ := uu_ob h
  refine uu_cv (d1 := 1) (k := 1079) (ci := 12) (T := TX12) (N := 153) (As := [.int x1]) (st := []) (st' := [.int (bI v1)]) (xc_X12_isSign uk  e2) so_1079.is (by decide) rfl kX12_isSign lX12_276 sX12_isSign (by decide) (Nat.le_of_ble_eq_true rfl) dX12_take_2 rfl ?_
  refine uu_ifb_eq (tgt := 15) dX12_take_5 (by decide) (fun c3 => ?_) (fun c3 => ?_)
  · replace h := uu_neg c3 h
    refine uu_aload_n dX12_take_15 rfl (List.mem_of_getElem? (i := 0) rfl) ?_
    refine uu_aload_n dX12_take_16 rfl (List.mem_of_getElem? (i := 0) rfl) ?_
    refine uu_geti (ci := 12) (N := 153) fX12_199 (by decide) so_1079.is (by decide) (by decide) dX12_take_17 ?_
    obtain ⟨s4, e5, h⟩ := uu_ob h
    refine uu_cv (d1 := 0) (k := 1079) (ci := 12) (T := TX12) (N := 153) (As := [.int (s.I 1079 32)]) (st := []) (st' := []) (xc_X12_fail uk  e5) so_1079.is (by decide) rfl kX12_fail lX12_208 sX12_fail (by decide) (Nat.le_of_ble_eq_true rfl) dX12_take_20 rfl ?_
    have hr := Option.some.inj h
    subst hr
    exact uu_vret rfl dX12_take_23
  · replace h := uu_pos c3 h
    refine uu_aload_n dX12_take_8 rfl (List.mem_of_getElem? (i := 0) rfl) ?_
    obtain ⟨s6, e7, h⟩ := uu_ob h
    refine uu_cv (d1 := 7) (k := 1079) (ci := 12) (T := TX12) (N := 153) (As := []) (st := []) (st' := []) (xc_X12_next uk  e7) so_1079.is (by decide) rfl kX12_next lX12_279 sX12_next (by decide) (Nat.le_of_ble_eq_true rfl) dX12_take_9 rfl ?_
    refine uu_goto (tgt := 23) dX12_take_12 (by decide) ?_
    have hr := Option.some.inj h
    subst hr
    exact uu_vret rfl dX12_take_23
