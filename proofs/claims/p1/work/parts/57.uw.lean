abbrev mX12_parameters : hM := (yX12_parameters, cX12_parameters, 3, (some (.boolean)))
theorem dX12_parameters_134 : decode cX12_parameters 134 = .ok (.iload_n 1, 1) := by decide +kernel
theorem dX12_parameters_135 : decode cX12_parameters 135 = .ok (.iconst 1, 1) := by decide +kernel
theorem dX12_parameters_136 : decode cX12_parameters 136 = .ok (.if_icmp .lt 9, 3) := by decide +kernel
theorem dX12_parameters_145 : decode cX12_parameters 145 = .ok (.iconst 0, 1) := by decide +kernel
theorem dX12_parameters_146 : decode cX12_parameters 146 = .ok (.ireturn, 1) := by decide +kernel
theorem dX12_parameters_139 : decode cX12_parameters 139 = .ok (.iload_n 1, 1) := by decide +kernel
theorem dX12_parameters_140 : decode cX12_parameters 140 = .ok (.bipush 9, 2) := by decide +kernel
theorem dX12_parameters_142 : decode cX12_parameters 142 = .ok (.if_icmp .le 5, 3) := by decide +kernel
theorem dX12_parameters_147 : decode cX12_parameters 147 = .ok (.aload_n 0, 1) := by decide +kernel
theorem dX12_parameters_148 : decode cX12_parameters 148 = .ok (.iload_n 2, 1) := by decide +kernel
theorem dX12_parameters_149 : decode cX12_parameters 149 = .ok (.aload_n 0, 1) := by decide +kernel
theorem fX12_1133 : h_fl RX12 1133 12 128 RX12 TX12 153 := ⟨rfl, by decide, inX12, h_t12 89 rfl rfl⟩
theorem dX12_parameters_150 : decode cX12_parameters 150 = .ok (.getfield 1133, 3) := by decide +kernel
theorem dX12_parameters_153 : decode cX12_parameters 153 = .ok (.if_icmp .le 7, 3) := by decide +kernel
theorem dX12_parameters_160 : decode cX12_parameters 160 = .ok (.aload_n 0, 1) := by decide +kernel
theorem dX12_parameters_161 : decode cX12_parameters 161 = .ok (.getfield 1133, 3) := by decide +kernel
theorem dX12_parameters_164 : decode cX12_parameters 164 = .ok (.putfield 1133, 3) := by decide +kernel
theorem dX12_parameters_167 : decode cX12_parameters 167 = .ok (.goto (-162), 3) := by decide +kernel
theorem dX12_parameters_156 : decode cX12_parameters 156 = .ok (.iload_n 2, 1) := by decide +kernel
theorem dX12_parameters_157 : decode cX12_parameters 157 = .ok (.goto 7, 3) := by decide +kernel
theorem dX12_parameters_116 : decode cX12_parameters 116 = .ok (.istore_n 2, 1) := by decide +kernel
theorem dX12_parameters_117 : decode cX12_parameters 117 = .ok (.iload_n 1, 1) := by decide +kernel
theorem dX12_parameters_118 : decode cX12_parameters 118 = .ok (.iconst 1, 1) := by decide +kernel
theorem dX12_parameters_119 : decode cX12_parameters 119 = .ok (.iadd, 1) := by decide +kernel
theorem dX12_parameters_120 : decode cX12_parameters 120 = .ok (.istore_n 1, 1) := by decide +kernel
theorem dX12_parameters_121 : decode cX12_parameters 121 = .ok (.aload_n 0, 1) := by decide +kernel
theorem dX12_parameters_122 : decode cX12_parameters 122 = .ok (.aload_n 0, 1) := by decide +kernel
theorem dX12_parameters_123 : decode cX12_parameters 123 = .ok (.getfield 1068, 3) := by decide +kernel
theorem dX12_parameters_126 : decode cX12_parameters 126 = .ok (.iconst 1, 1) := by decide +kernel
theorem dX12_parameters_127 : decode cX12_parameters 127 = .ok (.iadd, 1) := by decide +kernel
theorem dX12_parameters_128 : decode cX12_parameters 128 = .ok (.putfield 1068, 3) := by decide +kernel
theorem dX12_parameters_131 : decode cX12_parameters 131 = .ok (.goto (-74), 3) := by decide +kernel
theorem dX12_parameters_57 : decode cX12_parameters 57 = .ok (.aload_n 0, 1) := by decide +kernel
theorem dX12_parameters_58 : decode cX12_parameters 58 = .ok (.getfield 1068, 3) := by decide +kernel
theorem dX12_parameters_61 : decode cX12_parameters 61 = .ok (.aload_n 0, 1) := by decide +kernel
theorem dX12_parameters_62 : decode cX12_parameters 62 = .ok (.getfield 1071, 3) := by decide +kernel
theorem dX12_parameters_65 : decode cX12_parameters 65 = .ok (.if_icmp .ge 69, 3) := by decide +kernel
theorem dX12_parameters_68 : decode cX12_parameters 68 = .ok (.aload_n 0, 1) := by decide +kernel
theorem dX12_parameters_69 : decode cX12_parameters 69 = .ok (.getfield 1035, 3) := by decide +kernel
theorem dX12_parameters_72 : decode cX12_parameters 72 = .ok (.aload_n 0, 1) := by decide +kernel
theorem dX12_parameters_73 : decode cX12_parameters 73 = .ok (.getfield 1068, 3) := by decide +kernel
theorem dX12_parameters_76 : decode cX12_parameters 76 = .ok (.iaload, 1) := by decide +kernel
theorem dX12_parameters_77 : decode cX12_parameters 77 = .ok (.invokestatic 137, 3) := by decide +kernel
theorem dX12_parameters_80 : decode cX12_parameters 80 = .ok (.ifCond .eq 54, 3) := by decide +kernel
theorem dX12_parameters_83 : decode cX12_parameters 83 = .ok (.iload_n 1, 1) := by decide +kernel
theorem dX12_parameters_84 : decode cX12_parameters 84 = .ok (.bipush 10, 2) := by decide +kernel
theorem dX12_parameters_86 : decode cX12_parameters 86 = .ok (.if_icmp .ge 48, 3) := by decide +kernel
theorem dX12_parameters_89 : decode cX12_parameters 89 = .ok (.iload_n 1, 1) := by decide +kernel
theorem dX12_parameters_90 : decode cX12_parameters 90 = .ok (.bipush 9, 2) := by decide +kernel
theorem dX12_parameters_92 : decode cX12_parameters 92 = .ok (.if_icmp .ge 23, 3) := by decide +kernel
theorem dX12_parameters_115 : decode cX12_parameters 115 = .ok (.iload_n 2, 1) := by decide +kernel
theorem dX12_parameters_95 : decode cX12_parameters 95 = .ok (.bipush 10, 2) := by decide +kernel
theorem dX12_parameters_97 : decode cX12_parameters 97 = .ok (.iload_n 2, 1) := by decide +kernel
theorem dX12_parameters_98 : decode cX12_parameters 98 = .ok (.imul, 1) := by decide +kernel
theorem dX12_parameters_99 : decode cX12_parameters 99 = .ok (.aload_n 0, 1) := by decide +kernel
theorem dX12_parameters_100 : decode cX12_parameters 100 = .ok (.getfield 1035, 3) := by decide +kernel
theorem dX12_parameters_103 : decode cX12_parameters 103 = .ok (.aload_n 0, 1) := by decide +kernel
theorem dX12_parameters_104 : decode cX12_parameters 104 = .ok (.getfield 1068, 3) := by decide +kernel
theorem dX12_parameters_107 : decode cX12_parameters 107 = .ok (.iaload, 1) := by decide +kernel
theorem dX12_parameters_108 : decode cX12_parameters 108 = .ok (.iadd, 1) := by decide +kernel
theorem dX12_parameters_109 : decode cX12_parameters 109 = .ok (.bipush 48, 2) := by decide +kernel
theorem dX12_parameters_111 : decode cX12_parameters 111 = .ok (.isub, 1) := by decide +kernel
theorem dX12_parameters_112 : decode cX12_parameters 112 = .ok (.goto 4, 3) := by decide +kernel
theorem dX12_parameters_5 : decode cX12_parameters 5 = .ok (.aload_n 0, 1) := by decide +kernel
theorem dX12_parameters_6 : decode cX12_parameters 6 = .ok (.getfield 1068, 3) := by decide +kernel
theorem dX12_parameters_9 : decode cX12_parameters 9 = .ok (.aload_n 0, 1) := by decide +kernel
theorem dX12_parameters_10 : decode cX12_parameters 10 = .ok (.getfield 1071, 3) := by decide +kernel
theorem dX12_parameters_13 : decode cX12_parameters 13 = .ok (.if_icmp .ge 157, 3) := by decide +kernel
theorem dX12_parameters_170 : decode cX12_parameters 170 = .ok (.iconst 1, 1) := by decide +kernel
theorem dX12_parameters_171 : decode cX12_parameters 171 = .ok (.ireturn, 1) := by decide +kernel
theorem dX12_parameters_16 : decode cX12_parameters 16 = .ok (.aload_n 0, 1) := by decide +kernel
theorem dX12_parameters_17 : decode cX12_parameters 17 = .ok (.ldc_w 1112, 3) := by decide +kernel
theorem dX12_parameters_20 : decode cX12_parameters 20 = .ok (.invokevirtual 1074, 3) := by decide +kernel
theorem dX12_parameters_23 : decode cX12_parameters 23 = .ok (.ifCond .ne 5, 3) := by decide +kernel
theorem dX12_parameters_28 : decode cX12_parameters 28 = .ok (.aload_n 0, 1) := by decide +kernel
theorem dX12_parameters_29 : decode cX12_parameters 29 = .ok (.ldc_w 1136, 3) := by decide +kernel
theorem dX12_parameters_32 : decode cX12_parameters 32 = .ok (.invokevirtual 1074, 3) := by decide +kernel
theorem dX12_parameters_35 : decode cX12_parameters 35 = .ok (.ifCond .eq 6, 3) := by decide +kernel
theorem dX12_parameters_41 : decode cX12_parameters 41 = .ok (.aload_n 0, 1) := by decide +kernel
theorem dX12_parameters_42 : decode cX12_parameters 42 = .ok (.ldc_w 1138, 3) := by decide +kernel
theorem dX12_parameters_45 : decode cX12_parameters 45 = .ok (.invokevirtual 1074, 3) := by decide +kernel
theorem dX12_parameters_48 : decode cX12_parameters 48 = .ok (.ifCond .ne 5, 3) := by decide +kernel
theorem dX12_parameters_53 : decode cX12_parameters 53 = .ok (.iconst 0, 1) := by decide +kernel
theorem dX12_parameters_54 : decode cX12_parameters 54 = .ok (.istore_n 1, 1) := by decide +kernel
theorem dX12_parameters_55 : decode cX12_parameters 55 = .ok (.iconst 0, 1) := by decide +kernel
theorem dX12_parameters_56 : decode cX12_parameters 56 = .ok (.istore_n 2, 1) := by decide +kernel
theorem dX12_parameters_51 : decode cX12_parameters 51 = .ok (.iconst 0, 1) := by decide +kernel
theorem dX12_parameters_52 : decode cX12_parameters 52 = .ok (.ireturn, 1) := by decide +kernel
theorem dX12_parameters_38 : decode cX12_parameters 38 = .ok (.goto (-33), 3) := by decide +kernel
theorem dX12_parameters_26 : decode cX12_parameters 26 = .ok (.iconst 0, 1) := by decide +kernel
theorem dX12_parameters_27 : decode cX12_parameters 27 = .ok (.ireturn, 1) := by decide +kernel
theorem dX12_parameters_0 : decode cX12_parameters 0 = .ok (.aload_n 0, 1) := by decide +kernel
theorem dX12_parameters_1 : decode cX12_parameters 1 = .ok (.iconst 0, 1) := by decide +kernel
theorem dX12_parameters_2 : decode cX12_parameters 2 = .ok (.putfield 1133, 3) := by decide +kernel
def fb_X12_parameters_134 (K5 : uS → Option (uS × Bool)) (x1 : Int32) (x2 : Int32) (s : uS) : Option (uS × Bool) := if x1 < 1 then (some (s, false)) else (if x1 ≤ 9 then (if x2 ≤ (s.I 1079 128) then (K5 (wI s 1079 128 (s.I 1079 128))) else (K5 (wI s 1079 128 x2))) else (some (s, false)))
set_option maxRecDepth 100000 in
set_option maxHeartbeats 4000000 in
theorem xb_X12_parameters_134 {l : Launch} {D : va_G} {A : Nat → ClassId} {B : Nat} {Z : State → Heap → Prop} {vF : Value} (uk : uK B Z vF) {K5 : uS → Option (uS × Bool)} (hK5 : ∀   (s : uS) (r : (uS × Bool)), K5  s = some r → GU l D A B Z mX12_parameters 5 (r.1, some (.int (bI r.2))) s 5 [(0, .ref (B + 1079))] []) {x1 : Int32} {x2 : Int32} {s : uS} {r : (uS × Bool)}  (h : fb_X12_parameters_134 K5 x1 x2 s = some r) : GU l D A B Z mX12_parameters 5 (r.1, some (.int (bI r.2))) s 134 [(0, .ref (B + 1079)), (1, .int x1), (2, .int x2)] [] := by
  unfold fb_X12_parameters_134 at h
  refine uu_iload_n dX12_parameters_134 rfl (List.mem_of_getElem? (i := 1) rfl) ?_
  refine uu_iconst (v := 1) dX12_parameters_135 (by decide) ?_
  refine uu_icmp_lt (tgt := 145) dX12_parameters_136 (by decide) (fun c1 => ?_) (fun c1 => ?_)
  · replace h := uu_pos c1 h
    refine uu_iconst (v := 0) dX12_parameters_145 (by decide) ?_
    have hr := Option.some.inj h
    subst hr
    exact uu_zret (x := bI false) rfl (bI_z _) dX12_parameters_146
  · replace h := uu_neg c1 h
    refine uu_iload_n dX12_parameters_139 rfl (List.mem_of_getElem? (i := 1) rfl) ?_
    refine uu_bipush (v := 9) dX12_parameters_140 (by decide) ?_
    refine uu_icmp_le (tgt := 147) dX12_parameters_142 (by decide) (fun c2 => ?_) (fun c2 => ?_)
    · replace h := uu_pos c2 h
      refine uu_aload_n dX12_parameters_147 rfl (List.mem_of_getElem? (i := 0) rfl) ?_
      refine uu_iload_n dX12_parameters_148 rfl (List.mem_of_getElem? (i := 2) rfl) ?_
      refine uu_aload_n dX12_parameters_149 rfl (List.mem_of_getElem? (i := 0) rfl) ?_
      refine uu_geti (ci := 12) (N := 153) fX12_1133 (by decide) so_1079.is (by decide) (by decide) dX12_parameters_150 ?_
      refine uu_icmp_le (tgt := 160) dX12_parameters_153 (by decide) (fun c3 => ?_) (fun c3 => ?_)
      · replace h := uu_pos c3 h
        refine uu_aload_n dX12_parameters_160 rfl (List.mem_of_getElem? (i := 0) rfl) ?_
        refine uu_geti (ci := 12) (N := 153) fX12_1133 (by decide) so_1079.is (by decide) (by decide) dX12_parameters_161 ?_
        refine uu_puti (ft := .int) (ci := 12) (N := 153) fX12_1133 ptX12 (Or.inl rfl) (by decide) so_1079.is (by decide) (by decide) (by decide +kernel) rfl rfl dX12_parameters_164 ?_
        refine uu_goto (tgt := 5) dX12_parameters_167 (by decide) ?_
        refine uu_lv [0] (lv' := [(0, .ref (B + 1079))]) rfl ?_
        exact hK5  _ _ h
      · replace h := uu_neg c3 h
        refine uu_iload_n dX12_parameters_156 rfl (List.mem_of_getElem? (i := 2) rfl) ?_
        refine uu_goto (tgt := 164) dX12_parameters_157 (by decide) ?_
        refine uu_puti (ft := .int) (ci := 12) (N := 153) fX12_1133 ptX12 (Or.inl rfl) (by decide) so_1079.is (by decide) (by decide) (by decide +kernel) rfl rfl dX12_parameters_164 ?_
        refine uu_goto (tgt := 5) dX12_parameters_167 (by decide) ?_
        refine uu_lv [0] (lv' := [(0, .ref (B + 1079))]) rfl ?_
        exact hK5  _ _ h
    · replace h := uu_neg c2 h
      refine uu_iconst (v := 0) dX12_parameters_145 (by decide) ?_
      have hr := Option.some.inj h
      subst hr
      exact uu_zret (x := bI false) rfl (bI_z _) dX12_parameters_146
def fb_X12_parameters_116 (K5 : uS → Option (uS × Bool)) (K57 : Int32 → Int32 → uS → Option (uS × Bool)) (x1 : Int32) (xs0 : Int32) (s : uS) : Option (uS × Bool) := K57 (x1 + 1) xs0 (wI s 1079 127 ((s.I 1079 127) + 1))
set_option maxRecDepth 100000 in
set_option maxHeartbeats 4000000 in
theorem xb_X12_parameters_116 {l : Launch} {D : va_G} {A : Nat → ClassId} {B : Nat} {Z : State → Heap → Prop} {vF : Value} (uk : uK B Z vF) {K5 : uS → Option (uS × Bool)} {K57 : Int32 → Int32 → uS → Option (uS × Bool)} (hK5 : ∀   (s : uS) (r : (uS × Bool)), K5  s = some r → GU l D A B Z mX12_parameters 5 (r.1, some (.int (bI r.2))) s 5 [(0, .ref (B + 1079))] []) (hK57 : ∀ (x1 : Int32) (x2 : Int32)  (s : uS) (r : (uS × Bool)), K57 x1 x2 s = some r → GU l D A B Z mX12_parameters 5 (r.1, some (.int (bI r.2))) s 57 [(0, .ref (B + 1079)), (1, .int x1), (2, .int x2)] []) {x1 : Int32} {xs0 : Int32} {s : uS} {r : (uS × Bool)}  (h : fb_X12_parameters_116 K5 K57 x1 xs0 s = some r) : GU l D A B Z mX12_parameters 5 (r.1, some (.int (bI r.2))) s 116 [(0, .ref (B + 1079)), (1, .int x1)] [.int xs0] := by
  unfold fb_X12_parameters_116 at h
  refine uu_istore_n dX12_parameters_116 rfl (by decide) rfl ?_
  refine uu_iload_n dX12_parameters_117 rfl (List.mem_of_getElem? (i := 2) rfl) ?_
  refine uu_iconst (v := 1) dX12_parameters_118 (by decide) ?_
  refine uu_iadd dX12_parameters_119 ?_
  refine uu_istore_n dX12_parameters_120 rfl (by decide) rfl ?_
  refine uu_aload_n dX12_parameters_121 rfl (List.mem_of_getElem? (i := 2) rfl) ?_
  refine uu_aload_n dX12_parameters_122 rfl (List.mem_of_getElem? (i := 2) rfl) ?_
  refine uu_geti (ci := 12) (N := 153) fX12_1068 (by decide) so_1079.is (by decide) (by decide) dX12_parameters_123 ?_
  refine uu_iconst (v := 1) dX12_parameters_126 (by decide) ?_
  refine uu_iadd dX12_parameters_127 ?_
  refine uu_puti (ft := .int) (ci := 12) (N := 153) fX12_1068 ptX12 (Or.inl rfl) (by decide) so_1079.is (by decide) (by decide) (by decide +kernel) rfl rfl dX12_parameters_128 ?_
  refine uu_goto (tgt := 57) dX12_parameters_131 (by decide) ?_
  refine uu_lv [2, 0, 1] (lv' := [(0, .ref (B + 1079)), (1, .int (x1 + 1)), (2, .int xs0)]) rfl ?_
  exact hK57 (x1 + 1) xs0 _ _ h
def fb_X12_parameters_57 (K5 : uS → Option (uS × Bool)) (K57 : Int32 → Int32 → uS → Option (uS × Bool)) (x1 : Int32) (x2 : Int32) (s : uS) : Option (uS × Bool) := if (s.I 1079 126) ≤ (s.I 1079 127) then (fb_X12_parameters_134 K5 x1 x2 s) else ((iget 20 s 1147 (s.I 1079 127)).bind fun v2 => (fn_X12_isDigit v2 s).bind fun v4 => if v4 = true then (if (10 : Int32) ≤ x1 then (fb_X12_parameters_134 K5 x1 x2 s) else (if (9 : Int32) ≤ x1 then (fb_X12_parameters_116 K5 K57 x1 x2 s) else ((iget 20 s 1147 (s.I 1079 127)).bind fun v9 => fb_X12_parameters_116 K5 K57 x1 ((((10 : Int32) * x2) + v9) - 48) s))) else (fb_X12_parameters_134 K5 x1 x2 s))
set_option maxRecDepth 100000 in
set_option maxHeartbeats 4000000 in
theorem xb_X12_parameters_57 {l : Launch} {D : va_G} {A : Nat → ClassId} {B : Nat} {Z : State → Heap → Prop} {vF : Value} (uk : uK B Z vF) {K5 : uS → Option (uS × Bool)} {K57 : Int32 → Int32 → uS → Option (uS × Bool)} (hK5 : ∀   (s : uS) (r : (uS × Bool)), K5  s = some r → GU l D A B Z mX12_parameters 5 (r.1, some (.int (bI r.2))) s 5 [(0, .ref (B + 1079))] []) (hK57 : ∀ (x1 : Int32) (x2 : Int32)  (s : uS) (r : (uS × Bool)), K57 x1 x2 s = some r → GU l D A B Z mX12_parameters 5 (r.1, some (.int (bI r.2))) s 57 [(0, .ref (B + 1079)), (1, .int x1), (2, .int x2)] []) {x1 : Int32} {x2 : Int32} {s : uS} {r : (uS × Bool)}  (h : fb_X12_parameters_57 K5 K57 x1 x2 s = some r) : GU l D A B Z mX12_parameters 5 (r.1, some (.int (bI r.2))) s 57 [(0, .ref (B + 1079)), (1, .int x1), (2, .int x2)] [] := by
  unfold fb_X12_parameters_57 at h
  refine uu_aload_n dX12_parameters_57 rfl (List.mem_of_getElem? (i := 0) rfl) ?_
  refine uu_geti (ci := 12) (N := 153) fX12_1068 (by decide) so_1079.is (by decide) (by decide) dX12_parameters_58 ?_
  refine uu_aload_n dX12_parameters_61 rfl (List.mem_of_getElem? (i := 0) rfl) ?_
  refine uu_geti (ci := 12) (N := 153) fX12_1071 (by decide) so_1079.is (by decide) (by decide) dX12_parameters_62 ?_
  refine uu_icmp_ge (tgt := 134) dX12_parameters_65 (by decide) (fun c1 => ?_) (fun c1 => ?_)
  · replace h := uu_pos c1 h
    exact xb_X12_parameters_134 uk hK5 h
  · replace h := uu_neg c1 h
    refine uu_aload_n dX12_parameters_68 rfl (List.mem_of_getElem? (i := 0) rfl) ?_
    refine uu_geta (ci := 12) (N := 153) fX12_1035 (by decide) so_1079.is (by decide) (c := 1147) (by decide) dX12_parameters_69 ?_
    refine uu_aload_n dX12_parameters_72 rfl (List.mem_of_getElem? (i := 0) rfl) ?_
    refine uu_geti (ci := 12) (N := 153) fX12_1068 (by decide) so_1079.is (by decide) (by decide) dX12_parameters_73 ?_
    obtain ⟨v2, e3, h⟩ := uu_ob h
    refine uu_iald e3 dX12_parameters_76 ?_
    obtain ⟨v4, e5, h⟩ := uu_ob h
    refine uu_cs (d1 := 0) (As := [.int v2]) (st := []) (st' := [.int (bI v4)]) (xc_X12_isDigit uk  e5) kX12_isDigit lX12_137 sX12_isDigit (by decide) (Nat.le_of_ble_eq_true rfl) dX12_parameters_77 rfl ?_
    refine uu_ifb_eq (tgt := 134) dX12_parameters_80 (by decide) (fun c6 => ?_) (fun c6 => ?_)
    · replace h := uu_neg c6 h
      exact xb_X12_parameters_134 uk hK5 h
    · replace h := uu_pos c6 h
      refine uu_iload_n dX12_parameters_83 rfl (List.mem_of_getElem? (i := 1) rfl) ?_
      refine uu_bipush (v := 10) dX12_parameters_84 (by decide) ?_
      refine uu_icmp_ge (tgt := 134) dX12_parameters_86 (by decide) (fun c7 => ?_) (fun c7 => ?_)
      · replace h := uu_pos c7 h
        exact xb_X12_parameters_134 uk hK5 h
      · replace h := uu_neg c7 h
        refine uu_iload_n dX12_parameters_89 rfl (List.mem_of_getElem? (i := 1) rfl) ?_
        refine uu_bipush (v := 9) dX12_parameters_90 (by decide) ?_
        refine uu_icmp_ge (tgt := 115) dX12_parameters_92 (by decide) (fun c8 => ?_) (fun c8 => ?_)
        · replace h := uu_pos c8 h
          refine uu_iload_n dX12_parameters_115 rfl (List.mem_of_getElem? (i := 2) rfl) ?_
          refine uu_lv [0, 1] (lv' := [(0, .ref (B + 1079)), (1, .int x1)]) rfl ?_
          exact xb_X12_parameters_116 uk hK5 hK57 h
        · replace h := uu_neg c8 h
          refine uu_bipush (v := 10) dX12_parameters_95 (by decide) ?_
          refine uu_iload_n dX12_parameters_97 rfl (List.mem_of_getElem? (i := 2) rfl) ?_
          refine uu_imul dX12_parameters_98 ?_
          refine uu_aload_n dX12_parameters_99 rfl (List.mem_of_getElem? (i := 0) rfl) ?_
          refine uu_geta (ci := 12) (N := 153) fX12_1035 (by decide) so_1079.is (by decide) (c := 1147) (by decide) dX12_parameters_100 ?_
          refine uu_aload_n dX12_parameters_103 rfl (List.mem_of_getElem? (i := 0) rfl) ?_
          refine uu_geti (ci := 12) (N := 153) fX12_1068 (by decide) so_1079.is (by decide) (by decide) dX12_parameters_104 ?_
          obtain ⟨v9, e10, h⟩ := uu_ob h
          refine uu_iald e10 dX12_parameters_107 ?_
          refine uu_iadd dX12_parameters_108 ?_
          refine uu_bipush (v := 48) dX12_parameters_109 (by decide) ?_
          refine uu_isub dX12_parameters_111 ?_
          refine uu_goto (tgt := 116) dX12_parameters_112 (by decide) ?_
          refine uu_lv [0, 1] (lv' := [(0, .ref (B + 1079)), (1, .int x1)]) rfl ?_
          exact xb_X12_parameters_116 uk hK5 hK57 h
def fn_X12_parameters_57 (K5 : uS → Option (uS × Bool)) : Nat → Int32 → Int32 → uS → Option (uS × Bool)
  | 0 => fun _ _ _ => none
  | n + 1 => fb_X12_parameters_57 K5 (fn_X12_parameters_57 K5 n)
set_option maxRecDepth 100000 in
set_option maxHeartbeats 4000000 in
theorem xn_X12_parameters_57 {l : Launch} {D : va_G} {A : Nat → ClassId} {B : Nat} {Z : State → Heap → Prop} {vF : Value} (uk : uK B Z vF) {K5 : uS → Option (uS × Bool)} (hK5 : ∀   (s : uS) (r : (uS × Bool)), K5  s = some r → GU l D A B Z mX12_parameters 5 (r.1, some (.int (bI r.2))) s 5 [(0, .ref (B + 1079))] []) : ∀ (n : Nat) (x1 : Int32) (x2 : Int32)  (s : uS) (r : (uS × Bool)), fn_X12_parameters_57 K5 n x1 x2 s = some r → GU l D A B Z mX12_parameters 5 (r.1, some (.int (bI r.2))) s 57 [(0, .ref (B + 1079)), (1, .int x1), (2, .int x2)] [] := by
  intro n
  induction n with
  | zero => intro x1 x2 s r h
            cases h
  | succ n ih => intro x1 x2 s r h
                 exact xb_X12_parameters_57 uk hK5 ih  h
def fb_X12_parameters_5 (K5 : uS → Option (uS × Bool))  (s : uS) : Option (uS × Bool) := if (s.I 1079 126) ≤ (s.I 1079 127) then (some (s, true)) else ((fn_X12_stands kW_177 s).bind fun r3 => if r3.2 = true then ((fn_X12_stands kW_182 r3.1).bind fun r7 => if r7.2 = true then (K5 r7.1) else ((fn_X12_stands kW_183 r7.1).bind fun r11 => if r11.2 = true then (fn_X12_parameters_57 K5 uFu 0 0 r11.1) else (some (r11.1, false)))) else (some (r3.1, false)))
set_option maxRecDepth 100000 in
set_option maxHeartbeats 4000000 in
theorem xb_X12_parameters_5 {l : Launch} {D : va_G} {A : Nat → ClassId} {B : Nat} {Z : State → Heap → Prop} {vF : Value} (uk : uK B Z vF) {K5 : uS → Option (uS × Bool)} (hK5 : ∀   (s : uS) (r : (uS × Bool)), K5  s = some r → GU l D A B Z mX12_parameters 5 (r.1, some (.int (bI r.2))) s 5 [(0, .ref (B + 1079))] [])  {s : uS} {r : (uS × Bool)}  (h : fb_X12_parameters_5 K5  s = some r) : GU l D A B Z mX12_parameters 5 (r.1, some (.int (bI r.2))) s 5 [(0, .ref (B + 1079))] [] := by
  unfold fb_X12_parameters_5 at h
  refine uu_aload_n dX12_parameters_5 rfl (List.mem_of_getElem? (i := 0) rfl) ?_
  refine uu_geti (ci := 12) (N := 153) fX12_1068 (by decide) so_1079.is (by decide) (by decide) dX12_parameters_6 ?_
  refine uu_aload_n dX12_parameters_9 rfl (List.mem_of_getElem? (i := 0) rfl) ?_
  refine uu_geti (ci := 12) (N := 153) fX12_1071 (by decide) so_1079.is (by decide) (by decide) dX12_parameters_10 ?_
  refine uu_icmp_ge (tgt := 170) dX12_parameters_13 (by decide) (fun c1 => ?_) (fun c1 => ?_)
  · replace h := uu_pos c1 h
    refine uu_iconst (v := 1) dX12_parameters_170 (by decide) ?_
    have hr := Option.some.inj h
    subst hr
    exact uu_zret (x := bI true) rfl (bI_z _) dX12_parameters_171
  · replace h := uu_neg c1 h
    refine uu_aload_n dX12_parameters_16 rfl (List.mem_of_getElem? (i := 0) rfl) ?_
    obtain ⟨cq2, cp2, cv2, cw2⟩ := uk.2.1 177 _ rfl
    refine uu_ldcwS cv2 dX12_parameters_17 ?_
    obtain ⟨r3, e4, h⟩ := uu_ob h
    refine uu_cv (d1 := 4) (k := 1079) (ci := 12) (T := TX12) (N := 153) (As := [.ref cq2]) (st := []) (st' := [.int (bI r3.2)]) (xc_X12_stands uk cw2 e4) so_1079.is (by decide) rfl kX12_stands lX12_1074 sX12_stands (by decide) (Nat.le_of_ble_eq_true rfl) dX12_parameters_20 rfl ?_
    refine uu_ifb_ne (tgt := 28) dX12_parameters_23 (by decide) (fun c5 => ?_) (fun c5 => ?_)
    · replace h := uu_pos c5 h
      refine uu_aload_n dX12_parameters_28 rfl (List.mem_of_getElem? (i := 0) rfl) ?_
      obtain ⟨cq6, cp6, cv6, cw6⟩ := uk.2.1 182 _ rfl
      refine uu_ldcwS cv6 dX12_parameters_29 ?_
      obtain ⟨r7, e8, h⟩ := uu_ob h
      refine uu_cv (d1 := 4) (k := 1079) (ci := 12) (T := TX12) (N := 153) (As := [.ref cq6]) (st := []) (st' := [.int (bI r7.2)]) (xc_X12_stands uk cw6 e8) so_1079.is (by decide) rfl kX12_stands lX12_1074 sX12_stands (by decide) (Nat.le_of_ble_eq_true rfl) dX12_parameters_32 rfl ?_
      refine uu_ifb_eq (tgt := 41) dX12_parameters_35 (by decide) (fun c9 => ?_) (fun c9 => ?_)
      · replace h := uu_neg c9 h
        refine uu_aload_n dX12_parameters_41 rfl (List.mem_of_getElem? (i := 0) rfl) ?_
        obtain ⟨cq10, cp10, cv10, cw10⟩ := uk.2.1 183 _ rfl
        refine uu_ldcwS cv10 dX12_parameters_42 ?_
        obtain ⟨r11, e12, h⟩ := uu_ob h
        refine uu_cv (d1 := 4) (k := 1079) (ci := 12) (T := TX12) (N := 153) (As := [.ref cq10]) (st := []) (st' := [.int (bI r11.2)]) (xc_X12_stands uk cw10 e12) so_1079.is (by decide) rfl kX12_stands lX12_1074 sX12_stands (by decide) (Nat.le_of_ble_eq_true rfl) dX12_parameters_45 rfl ?_
        refine uu_ifb_ne (tgt := 53) dX12_parameters_48 (by decide) (fun c13 => ?_) (fun c13 => ?_)
        · replace h := uu_pos c13 h
          refine uu_iconst (v := 0) dX12_parameters_53 (by decide) ?_
          refine uu_istore_n dX12_parameters_54 rfl (by decide) rfl ?_
          refine uu_iconst (v := 0) dX12_parameters_55 (by decide) ?_
          refine uu_istore_n dX12_parameters_56 rfl (by decide) rfl ?_
          refine uu_lv [2, 1, 0] (lv' := [(0, .ref (B + 1079)), (1, .int 0), (2, .int 0)]) rfl ?_
          exact xn_X12_parameters_57 uk hK5 _ _ _ _ _ h
        · replace h := uu_neg c13 h
          refine uu_iconst (v := 0) dX12_parameters_51 (by decide) ?_
          have hr := Option.some.inj h
          subst hr
          exact uu_zret (x := bI false) rfl (bI_z _) dX12_parameters_52
      · replace h := uu_pos c9 h
        refine uu_goto (tgt := 5) dX12_parameters_38 (by decide) ?_
        exact hK5  _ _ h
    · replace h := uu_neg c5 h
      refine uu_iconst (v := 0) dX12_parameters_26 (by decide) ?_
      have hr := Option.some.inj h
      subst hr
      exact uu_zret (x := bI false) rfl (bI_z _) dX12_parameters_27
def fn_X12_parameters_5  : Nat → uS → Option (uS × Bool)
  | 0 => fun _ => none
  | n + 1 => fb_X12_parameters_5 (fn_X12_parameters_5  n)
set_option maxRecDepth 100000 in
set_option maxHeartbeats 4000000 in
theorem xn_X12_parameters_5 {l : Launch} {D : va_G} {A : Nat → ClassId} {B : Nat} {Z : State → Heap → Prop} {vF : Value} (uk : uK B Z vF)   : ∀ (n : Nat)   (s : uS) (r : (uS × Bool)), fn_X12_parameters_5  n  s = some r → GU l D A B Z mX12_parameters 5 (r.1, some (.int (bI r.2))) s 5 [(0, .ref (B + 1079))] [] := by
  intro n
  induction n with
  | zero => intro s r h
            cases h
  | succ n ih => intro s r h
                 exact xb_X12_parameters_5 uk ih  h
def fn_X12_parameters  (s : uS) : Option (uS × Bool) := fn_X12_parameters_5 uFu (wI s 1079 128 0)
set_option maxRecDepth 100000 in
set_option maxHeartbeats 4000000 in
theorem xc_X12_parameters {l : Launch} {D : va_G} {A : Nat → ClassId} {B : Nat} {Z : State → Heap → Prop} {vF : Value} (uk : uK B Z vF)  {s : uS} {r : (uS × Bool)}  (h : fn_X12_parameters  s = some r) : CU l D A B Z 5 mX12_parameters s [.ref (B + 1079)] (r.1, some (.int (bI r.2))) := by
  unfold fn_X12_parameters at h
  refine cu_of rfl uk.1.1 (Nat.le_of_ble_eq_true rfl) ?_
  show GU _ _ _ _ _ _ _ _ _ 0 [(0, .ref (B + 1079))] []
  refine uu_aload_n dX12_parameters_0 rfl (List.mem_of_getElem? (i := 0) rfl) ?_
  refine uu_iconst (v := 0) dX12_parameters_1 (by decide) ?_
  refine uu_puti (ft := .int) (ci := 12) (N := 153) fX12_1133 ptX12 (Or.inl rfl) (by decide) so_1079.is (by decide) (by decide) (by decide +kernel) rfl rfl dX12_parameters_2 ?_
  exact xn_X12_parameters_5 uk  _ _ _ h
abbrev mX12_sender : hM := (yX12_sender, cX12_sender, 3, none)
theorem dX12_sender_152 : decode cX12_sender 152 = .ok (.iload_n 2, 1) := by decide +kernel
theorem dX12_sender_153 : decode cX12_sender 153 = .ok (.aload_n 0, 1) := by decide +kernel
theorem fX12_1142 : h_fl RX12 1142 12 130 RX12 TX12 153 := ⟨rfl, by decide, inX12, h_t12 91 rfl rfl⟩
theorem dX12_sender_154 : decode cX12_sender 154 = .ok (.getfield 1142, 3) := by decide +kernel
theorem dX12_sender_157 : decode cX12_sender 157 = .ok (.if_icmp .ge 21, 3) := by decide +kernel
theorem dX12_sender_178 : decode cX12_sender 178 = .ok (.aload_n 0, 1) := by decide +kernel
theorem dX12_sender_179 : decode cX12_sender 179 = .ok (.iconst 4, 1) := by decide +kernel
theorem dX12_sender_180 : decode cX12_sender 180 = .ok (.ldc_w 1156, 3) := by decide +kernel
theorem dX12_sender_183 : decode cX12_sender 183 = .ok (.invokevirtual 974, 3) := by decide +kernel
theorem dX12_sender_186 : decode cX12_sender 186 = .ok (.return_, 1) := by decide +kernel
theorem dX12_sender_160 : decode cX12_sender 160 = .ok (.aload_n 0, 1) := by decide +kernel
theorem dX12_sender_161 : decode cX12_sender 161 = .ok (.getfield 681, 3) := by decide +kernel
theorem dX12_sender_164 : decode cX12_sender 164 = .ok (.iload_n 2, 1) := by decide +kernel
theorem dX12_sender_165 : decode cX12_sender 165 = .ok (.aload_n 0, 1) := by decide +kernel
theorem dX12_sender_166 : decode cX12_sender 166 = .ok (.getfield 1150, 3) := by decide +kernel
theorem dX12_sender_169 : decode cX12_sender 169 = .ok (.iload_n 2, 1) := by decide +kernel
theorem dX12_sender_170 : decode cX12_sender 170 = .ok (.iaload, 1) := by decide +kernel
theorem dX12_sender_171 : decode cX12_sender 171 = .ok (.iastore, 1) := by decide +kernel
theorem dX12_sender_172 : decode cX12_sender 172 = .ok (.iinc 2 1, 3) := by decide +kernel
theorem dX12_sender_175 : decode cX12_sender 175 = .ok (.goto (-23), 3) := by decide +kernel
theorem dX12_sender_87 : decode cX12_sender 87 = .ok (.aload_n 0, 1) := by decide +kernel
theorem dX12_sender_88 : decode cX12_sender 88 = .ok (.iconst 4, 1) := by decide +kernel
theorem dX12_sender_89 : decode cX12_sender 89 = .ok (.ldc_w 1077, 3) := by decide +kernel
theorem dX12_sender_92 : decode cX12_sender 92 = .ok (.invokevirtual 974, 3) := by decide +kernel
theorem dX12_sender_95 : decode cX12_sender 95 = .ok (.goto 91, 3) := by decide +kernel
theorem dX12_sender_76 : decode cX12_sender 76 = .ok (.iload_n 1, 1) := by decide +kernel
theorem dX12_sender_77 : decode cX12_sender 77 = .ok (.ifCond .eq 10, 3) := by decide +kernel
theorem dX12_sender_80 : decode cX12_sender 80 = .ok (.aload_n 0, 1) := by decide +kernel
theorem kX12_parameters : h_ml mX12_parameters 0 := ⟨h_t10 235 rfl rfl, h_t1 16 rfl rfl, ⟨by decide, by decide, by decide +kernel⟩, by decide⟩
theorem lX12_1153 : Cond.methodLink RX12 1153 mX12_parameters.1 ∈ lw_g := h_t10 232 rfl rfl
theorem sX12_parameters : Cond.instanceMethod mX12_parameters.1 ∈ lw_g ∧ Cond.selects mX12_parameters.1.cls mX12_parameters.1 mX12_parameters.1 ∈ lw_g := ⟨h_t10 234 rfl rfl, h_ins 246 rfl⟩
theorem dX12_sender_81 : decode cX12_sender 81 = .ok (.invokevirtual 1153, 3) := by decide +kernel
theorem dX12_sender_84 : decode cX12_sender 84 = .ok (.ifCond .ne 14, 3) := by decide +kernel
theorem dX12_sender_98 : decode cX12_sender 98 = .ok (.aload_n 0, 1) := by decide +kernel
theorem dX12_sender_99 : decode cX12_sender 99 = .ok (.getfield 1029, 3) := by decide +kernel
theorem dX12_sender_102 : decode cX12_sender 102 = .ok (.ifCond .eq 14, 3) := by decide +kernel
theorem dX12_sender_116 : decode cX12_sender 116 = .ok (.aload_n 0, 1) := by decide +kernel
theorem dX12_sender_117 : decode cX12_sender 117 = .ok (.getfield 1133, 3) := by decide +kernel
theorem dX12_sender_120 : decode cX12_sender 120 = .ok (.sipush 4000, 3) := by decide +kernel
theorem dX12_sender_123 : decode cX12_sender 123 = .ok (.if_icmp .le 14, 3) := by decide +kernel
theorem dX12_sender_137 : decode cX12_sender 137 = .ok (.aload_n 0, 1) := by decide +kernel
theorem dX12_sender_138 : decode cX12_sender 138 = .ok (.iconst 1, 1) := by decide +kernel
theorem dX12_sender_139 : decode cX12_sender 139 = .ok (.putfield 1029, 3) := by decide +kernel
theorem dX12_sender_142 : decode cX12_sender 142 = .ok (.aload_n 0, 1) := by decide +kernel
theorem dX12_sender_143 : decode cX12_sender 143 = .ok (.aload_n 0, 1) := by decide +kernel
theorem dX12_sender_144 : decode cX12_sender 144 = .ok (.getfield 1142, 3) := by decide +kernel
theorem dX12_sender_147 : decode cX12_sender 147 = .ok (.putfield 678, 3) := by decide +kernel
theorem dX12_sender_150 : decode cX12_sender 150 = .ok (.iconst 0, 1) := by decide +kernel
theorem dX12_sender_151 : decode cX12_sender 151 = .ok (.istore_n 2, 1) := by decide +kernel
theorem dX12_sender_126 : decode cX12_sender 126 = .ok (.aload_n 0, 1) := by decide +kernel
theorem dX12_sender_127 : decode cX12_sender 127 = .ok (.iconst 4, 1) := by decide +kernel
theorem dX12_sender_128 : decode cX12_sender 128 = .ok (.ldc_w 972, 3) := by decide +kernel
theorem dX12_sender_131 : decode cX12_sender 131 = .ok (.invokevirtual 974, 3) := by decide +kernel
theorem dX12_sender_134 : decode cX12_sender 134 = .ok (.goto 52, 3) := by decide +kernel
theorem dX12_sender_105 : decode cX12_sender 105 = .ok (.aload_n 0, 1) := by decide +kernel
theorem dX12_sender_106 : decode cX12_sender 106 = .ok (.iconst 4, 1) := by decide +kernel
theorem dX12_sender_107 : decode cX12_sender 107 = .ok (.ldc_w 1108, 3) := by decide +kernel
theorem dX12_sender_110 : decode cX12_sender 110 = .ok (.invokevirtual 974, 3) := by decide +kernel
theorem dX12_sender_113 : decode cX12_sender 113 = .ok (.goto 73, 3) := by decide +kernel
theorem dX12_sender_50 : decode cX12_sender 50 = .ok (.iload_n 2, 1) := by decide +kernel
theorem dX12_sender_51 : decode cX12_sender 51 = .ok (.aload_n 0, 1) := by decide +kernel
theorem dX12_sender_52 : decode cX12_sender 52 = .ok (.getfield 1142, 3) := by decide +kernel
theorem dX12_sender_55 : decode cX12_sender 55 = .ok (.if_icmp .ge 21, 3) := by decide +kernel
theorem dX12_sender_58 : decode cX12_sender 58 = .ok (.aload_n 0, 1) := by decide +kernel
theorem dX12_sender_59 : decode cX12_sender 59 = .ok (.getfield 1150, 3) := by decide +kernel
theorem dX12_sender_62 : decode cX12_sender 62 = .ok (.iload_n 2, 1) := by decide +kernel
theorem dX12_sender_63 : decode cX12_sender 63 = .ok (.aload_n 0, 1) := by decide +kernel
theorem dX12_sender_64 : decode cX12_sender 64 = .ok (.getfield 116, 3) := by decide +kernel
theorem dX12_sender_67 : decode cX12_sender 67 = .ok (.iload_n 2, 1) := by decide +kernel
theorem dX12_sender_68 : decode cX12_sender 68 = .ok (.iaload, 1) := by decide +kernel
theorem dX12_sender_69 : decode cX12_sender 69 = .ok (.iastore, 1) := by decide +kernel
theorem dX12_sender_70 : decode cX12_sender 70 = .ok (.iinc 2 1, 3) := by decide +kernel
theorem dX12_sender_73 : decode cX12_sender 73 = .ok (.goto (-23), 3) := by decide +kernel
theorem dX12_sender_0 : decode cX12_sender 0 = .ok (.aload_n 0, 1) := by decide +kernel
theorem dX12_sender_1 : decode cX12_sender 1 = .ok (.ldc_w 1140, 3) := by decide +kernel
theorem dX12_sender_4 : decode cX12_sender 4 = .ok (.invokevirtual 1074, 3) := by decide +kernel
theorem dX12_sender_7 : decode cX12_sender 7 = .ok (.istore_n 1, 1) := by decide +kernel
theorem dX12_sender_8 : decode cX12_sender 8 = .ok (.aload_n 0, 1) := by decide +kernel
theorem dX12_sender_9 : decode cX12_sender 9 = .ok (.iconst 0, 1) := by decide +kernel
theorem dX12_sender_10 : decode cX12_sender 10 = .ok (.putfield 1142, 3) := by decide +kernel
theorem dX12_sender_13 : decode cX12_sender 13 = .ok (.iload_n 1, 1) := by decide +kernel
theorem dX12_sender_14 : decode cX12_sender 14 = .ok (.ifCond .eq 62, 3) := by decide +kernel
theorem dX12_sender_17 : decode cX12_sender 17 = .ok (.aload_n 0, 1) := by decide +kernel
theorem dX12_sender_18 : decode cX12_sender 18 = .ok (.ldc_w 1145, 3) := by decide +kernel
theorem dX12_sender_21 : decode cX12_sender 21 = .ok (.invokevirtual 1074, 3) := by decide +kernel
theorem dX12_sender_24 : decode cX12_sender 24 = .ok (.ifCond .ne 52, 3) := by decide +kernel
theorem dX12_sender_27 : decode cX12_sender 27 = .ok (.aload_n 0, 1) := by decide +kernel
theorem dX12_sender_28 : decode cX12_sender 28 = .ok (.invokevirtual 1147, 3) := by decide +kernel
theorem dX12_sender_31 : decode cX12_sender 31 = .ok (.istore_n 1, 1) := by decide +kernel
theorem dX12_sender_32 : decode cX12_sender 32 = .ok (.aload_n 0, 1) := by decide +kernel
theorem dX12_sender_33 : decode cX12_sender 33 = .ok (.iload_n 1, 1) := by decide +kernel
theorem dX12_sender_34 : decode cX12_sender 34 = .ok (.ifCond .eq 10, 3) := by decide +kernel
theorem dX12_sender_44 : decode cX12_sender 44 = .ok (.iconst 0, 1) := by decide +kernel
theorem dX12_sender_45 : decode cX12_sender 45 = .ok (.putfield 1142, 3) := by decide +kernel
theorem dX12_sender_48 : decode cX12_sender 48 = .ok (.iconst 0, 1) := by decide +kernel
theorem dX12_sender_49 : decode cX12_sender 49 = .ok (.istore_n 2, 1) := by decide +kernel
theorem dX12_sender_37 : decode cX12_sender 37 = .ok (.aload_n 0, 1) := by decide +kernel
theorem dX12_sender_38 : decode cX12_sender 38 = .ok (.getfield 110, 3) := by decide +kernel
theorem dX12_sender_41 : decode cX12_sender 41 = .ok (.goto 4, 3) := by decide +kernel
def fb_X12_sender_152 (K152 : Int32 → uS → Option uS) (x2 : Int32) (s : uS) : Option uS := if (s.I 1079 130) ≤ x2 then ((fn_X12_line 4 kW_186 s).bind fun s3 => some s3) else ((iget 20 s 1148 x2).bind fun v5 => (iput 20 s 1137 x2 v5).bind fun s7 => K152 (x2 + 1) s7)
set_option maxRecDepth 100000 in
set_option maxHeartbeats 4000000 in
theorem xb_X12_sender_152 {l : Launch} {D : va_G} {A : Nat → ClassId} {B : Nat} {Z : State → Heap → Prop} {vF : Value} (uk : uK B Z vF) {K152 : Int32 → uS → Option uS} (hK152 : ∀ (x2 : Int32)  (s : uS) (r : uS), K152 x2 s = some r → GU l D A B Z mX12_sender 6 (r, none) s 152 [(0, .ref (B + 1079)), (2, .int x2)] []) {x2 : Int32} {s : uS} {r : uS}  (h : fb_X12_sender_152 K152 x2 s = some r) : GU l D A B Z mX12_sender 6 (r, none) s 152 [(0, .ref (B + 1079)), (2, .int x2)] [] := by
  unfold fb_X12_sender_152 at h
  refine uu_iload_n dX12_sender_152 rfl (List.mem_of_getElem? (i := 1) rfl) ?_
  refine uu_aload_n dX12_sender_153 rfl (List.mem_of_getElem? (i := 0) rfl) ?_
  refine uu_geti (ci := 12) (N := 153) fX12_1142 (by decide) so_1079.is (by decide) (by decide) dX12_sender_154 ?_
  refine uu_icmp_ge (tgt := 178) dX12_sender_157 (by decide) (fun c1 => ?_) (fun c1 => ?_)
  · replace h := uu_pos c1 h
    refine uu_aload_n dX12_sender_178 rfl (List.mem_of_getElem? (i := 0) rfl) ?_
    refine uu_iconst (v := 4) dX12_sender_179 (by decide) ?_
    obtain ⟨cq2, cp2, cv2, cw2⟩ := uk.2.1 186 _ rfl
    refine uu_ldcwS cv2 dX12_sender_180 ?_
    obtain ⟨s3, e4, h⟩ := uu_ob h
    refine uu_cv (d1 := 5) (k := 1079) (ci := 12) (T := TX12) (N := 153) (As := [.int 4, .ref cq2]) (st := []) (st' := []) (xc_X12_line uk cw2 e4) so_1079.is (by decide) rfl kX12_line lX12_974 sX12_line (by decide) (Nat.le_of_ble_eq_true rfl) dX12_sender_183 rfl ?_
    have hr := Option.some.inj h
    subst hr
    exact uu_vret rfl dX12_sender_186
  · replace h := uu_neg c1 h
    refine uu_aload_n dX12_sender_160 rfl (List.mem_of_getElem? (i := 0) rfl) ?_
    refine uu_geta (ci := 12) (N := 153) fX12_681 (by decide) so_1079.is (by decide) (c := 1137) (by decide) dX12_sender_161 ?_
    refine uu_iload_n dX12_sender_164 rfl (List.mem_of_getElem? (i := 1) rfl) ?_
    refine uu_aload_n dX12_sender_165 rfl (List.mem_of_getElem? (i := 0) rfl) ?_
    refine uu_geta (ci := 12) (N := 153) fX12_1150 (by decide) so_1079.is (by decide) (c := 1148) (by decide) dX12_sender_166 ?_
    refine uu_iload_n dX12_sender_169 rfl (List.mem_of_getElem? (i := 1) rfl) ?_
    obtain ⟨v5, e6, h⟩ := uu_ob h
    refine uu_iald e6 dX12_sender_170 ?_
    obtain ⟨s7, e8, h⟩ := uu_ob h
    refine uu_iast e8 dX12_sender_171 ?_
    refine uu_iinc (v := x2 + 1) dX12_sender_172 (k := 1) rfl rfl (by decide) rfl ?_
    refine uu_goto (tgt := 152) dX12_sender_175 (by decide) ?_
    refine uu_lv [1, 0] (lv' := [(0, .ref (B + 1079)), (2, .int (x2 + 1))]) rfl ?_
    exact hK152 (x2 + 1) _ _ h
def fn_X12_sender_152  : Nat → Int32 → uS → Option uS
  | 0 => fun _ _ => none
  | n + 1 => fb_X12_sender_152 (fn_X12_sender_152  n)
set_option maxRecDepth 100000 in
set_option maxHeartbeats 4000000 in
theorem xn_X12_sender_152 {l : Launch} {D : va_G} {A : Nat → ClassId} {B : Nat} {Z : State → Heap → Prop} {vF : Value} (uk : uK B Z vF)   : ∀ (n : Nat) (x2 : Int32)  (s : uS) (r : uS), fn_X12_sender_152  n x2 s = some r → GU l D A B Z mX12_sender 6 (r, none) s 152 [(0, .ref (B + 1079)), (2, .int x2)] [] := by
  intro n
  induction n with
  | zero => intro x2 s r h
            cases h
  | succ n ih => intro x2 s r h
                 exact xb_X12_sender_152 uk ih  h
def fb_X12_sender_87   (s : uS) : Option uS := (fn_X12_line 4 kW_165 s).bind fun s2 => some s2
set_option maxRecDepth 100000 in
set_option maxHeartbeats 4000000 in
theorem xb_X12_sender_87 {l : Launch} {D : va_G} {A : Nat → ClassId} {B : Nat} {Z : State → Heap → Prop} {vF : Value} (uk : uK B Z vF)    {s : uS} {r : uS}  (h : fb_X12_sender_87   s = some r) : GU l D A B Z mX12_sender 6 (r, none) s 87 [(0, .ref (B + 1079))] [] := by
  unfold fb_X12_sender_87 at h
  refine uu_aload_n dX12_sender_87 rfl (List.mem_of_getElem? (i := 0) rfl) ?_
  refine uu_iconst (v := 4) dX12_sender_88 (by decide) ?_
  obtain ⟨cq1, cp1, cv1, cw1⟩ := uk.2.1 165 _ rfl
  refine uu_ldcwS cv1 dX12_sender_89 ?_
  obtain ⟨s2, e3, h⟩ := uu_ob h
  refine uu_cv (d1 := 5) (k := 1079) (ci := 12) (T := TX12) (N := 153) (As := [.int 4, .ref cq1]) (st := []) (st' := []) (xc_X12_line uk cw1 e3) so_1079.is (by decide) rfl kX12_line lX12_974 sX12_line (by decide) (Nat.le_of_ble_eq_true rfl) dX12_sender_92 rfl ?_
  refine uu_goto (tgt := 186) dX12_sender_95 (by decide) ?_
  have hr := Option.some.inj h
  subst hr
  exact uu_vret rfl dX12_sender_186
def fb_X12_sender_76  (b1 : Bool) (s : uS) : Option uS := if b1 = true then ((fn_X12_parameters s).bind fun r2 => if r2.2 = true then (if (r2.1.I 1079 115) = 0 then (if (r2.1.I 1079 128) ≤ 4000 then (fn_X12_sender_152 uFu 0 (wI (wI r2.1 1079 115 1) 1079 93 ((wI r2.1 1079 115 1).I 1079 130))) else ((fn_X12_line 4 kW_159 r2.1).bind fun s8 => some s8)) else ((fn_X12_line 4 kW_175 r2.1).bind fun s11 => some s11)) else (fb_X12_sender_87 r2.1)) else (fb_X12_sender_87 s)
set_option maxRecDepth 100000 in
set_option maxHeartbeats 4000000 in
theorem xb_X12_sender_76 {l : Launch} {D : va_G} {A : Nat → ClassId} {B : Nat} {Z : State → Heap → Prop} {vF : Value} (uk : uK B Z vF)   {b1 : Bool} {s : uS} {r : uS}  (h : fb_X12_sender_76  b1 s = some r) : GU l D A B Z mX12_sender 6 (r, none) s 76 [(0, .ref (B + 1079)), (1, .int (bI b1))] [] := by
  unfold fb_X12_sender_76 at h
  refine uu_iload_n dX12_sender_76 rfl (List.mem_of_getElem? (i := 1) rfl) ?_
  refine uu_ifb_eq (tgt := 87) dX12_sender_77 (by decide) (fun c1 => ?_) (fun c1 => ?_)
  · replace h := uu_neg c1 h
    refine uu_lv [0] (lv' := [(0, .ref (B + 1079))]) rfl ?_
    exact xb_X12_sender_87 uk  h
  · replace h := uu_pos c1 h
    refine uu_aload_n dX12_sender_80 rfl (List.mem_of_getElem? (i := 0) rfl) ?_
    obtain ⟨r2, e3, h⟩ := uu_ob h
    refine uu_cv (d1 := 5) (k := 1079) (ci := 12) (T := TX12) (N := 153) (As := []) (st := []) (st' := [.int (bI r2.2)]) (xc_X12_parameters uk  e3) so_1079.is (by decide) rfl kX12_parameters lX12_1153 sX12_parameters (by decide) (Nat.le_of_ble_eq_true rfl) dX12_sender_81 rfl ?_
    refine uu_ifb_ne (tgt := 98) dX12_sender_84 (by decide) (fun c4 => ?_) (fun c4 => ?_)
    · replace h := uu_pos c4 h
      refine uu_aload_n dX12_sender_98 rfl (List.mem_of_getElem? (i := 0) rfl) ?_
      refine uu_geti (ci := 12) (N := 153) fX12_1029 (by decide) so_1079.is (by decide) (by decide) dX12_sender_99 ?_
      refine uu_if_eq (tgt := 116) dX12_sender_102 (by decide) (fun c5 => ?_) (fun c5 => ?_)
      · replace h := uu_pos c5 h
        refine uu_aload_n dX12_sender_116 rfl (List.mem_of_getElem? (i := 0) rfl) ?_
        refine uu_geti (ci := 12) (N := 153) fX12_1133 (by decide) so_1079.is (by decide) (by decide) dX12_sender_117 ?_
        refine uu_sipush (v := 4000) dX12_sender_120 (by decide) ?_
        refine uu_icmp_le (tgt := 137) dX12_sender_123 (by decide) (fun c6 => ?_) (fun c6 => ?_)
        · replace h := uu_pos c6 h
          refine uu_aload_n dX12_sender_137 rfl (List.mem_of_getElem? (i := 0) rfl) ?_
          refine uu_iconst (v := 1) dX12_sender_138 (by decide) ?_
          refine uu_puti (ft := .boolean) (ci := 12) (N := 153) fX12_1029 ptX12 (Or.inl rfl) (by decide) so_1079.is (by decide) (by decide) (by decide +kernel) rfl rfl dX12_sender_139 ?_
          refine uu_aload_n dX12_sender_142 rfl (List.mem_of_getElem? (i := 0) rfl) ?_
          refine uu_aload_n dX12_sender_143 rfl (List.mem_of_getElem? (i := 0) rfl) ?_
          refine uu_geti (ci := 12) (N := 153) fX12_1142 (by decide) so_1079.is (by decide) (by decide) dX12_sender_144 ?_
          refine uu_puti (ft := .int) (ci := 12) (N := 153) fX12_678 ptX12 (Or.inl rfl) (by decide) so_1079.is (by decide) (by decide) (by decide +kernel) rfl rfl dX12_sender_147 ?_
          refine uu_iconst (v := 0) dX12_sender_150 (by decide) ?_
          refine uu_istore_n dX12_sender_151 rfl (by decide) rfl ?_
          refine uu_lv [1, 0] (lv' := [(0, .ref (B + 1079)), (2, .int 0)]) rfl ?_
          exact xn_X12_sender_152 uk  _ _ _ _ h
        · replace h := uu_neg c6 h
          refine uu_aload_n dX12_sender_126 rfl (List.mem_of_getElem? (i := 0) rfl) ?_
          refine uu_iconst (v := 4) dX12_sender_127 (by decide) ?_
          obtain ⟨cq7, cp7, cv7, cw7⟩ := uk.2.1 159 _ rfl
          refine uu_ldcwS cv7 dX12_sender_128 ?_
          obtain ⟨s8, e9, h⟩ := uu_ob h
          refine uu_cv (d1 := 5) (k := 1079) (ci := 12) (T := TX12) (N := 153) (As := [.int 4, .ref cq7]) (st := []) (st' := []) (xc_X12_line uk cw7 e9) so_1079.is (by decide) rfl kX12_line lX12_974 sX12_line (by decide) (Nat.le_of_ble_eq_true rfl) dX12_sender_131 rfl ?_
          refine uu_goto (tgt := 186) dX12_sender_134 (by decide) ?_
          have hr := Option.some.inj h
          subst hr
          exact uu_vret rfl dX12_sender_186
      · replace h := uu_neg c5 h
        refine uu_aload_n dX12_sender_105 rfl (List.mem_of_getElem? (i := 0) rfl) ?_
        refine uu_iconst (v := 4) dX12_sender_106 (by decide) ?_
        obtain ⟨cq10, cp10, cv10, cw10⟩ := uk.2.1 175 _ rfl
        refine uu_ldcwS cv10 dX12_sender_107 ?_
        obtain ⟨s11, e12, h⟩ := uu_ob h
        refine uu_cv (d1 := 5) (k := 1079) (ci := 12) (T := TX12) (N := 153) (As := [.int 4, .ref cq10]) (st := []) (st' := []) (xc_X12_line uk cw10 e12) so_1079.is (by decide) rfl kX12_line lX12_974 sX12_line (by decide) (Nat.le_of_ble_eq_true rfl) dX12_sender_110 rfl ?_
        refine uu_goto (tgt := 186) dX12_sender_113 (by decide) ?_
        have hr := Option.some.inj h
        subst hr
        exact uu_vret rfl dX12_sender_186
    · replace h := uu_neg c4 h
      refine uu_lv [0] (lv' := [(0, .ref (B + 1079))]) rfl ?_
      exact xb_X12_sender_87 uk  h
def fb_X12_sender_50 (K50 : Bool → Int32 → uS → Option uS) (b1 : Bool) (x2 : Int32) (s : uS) : Option uS := if (s.I 1079 130) ≤ x2 then (fb_X12_sender_76 b1 s) else ((iget 20 s 1093 x2).bind fun v2 => (iput 20 s 1148 x2 v2).bind fun s4 => K50 b1 (x2 + 1) s4)
set_option maxRecDepth 100000 in
set_option maxHeartbeats 4000000 in
theorem xb_X12_sender_50 {l : Launch} {D : va_G} {A : Nat → ClassId} {B : Nat} {Z : State → Heap → Prop} {vF : Value} (uk : uK B Z vF) {K50 : Bool → Int32 → uS → Option uS} (hK50 : ∀ (b1 : Bool) (x2 : Int32)  (s : uS) (r : uS), K50 b1 x2 s = some r → GU l D A B Z mX12_sender 6 (r, none) s 50 [(0, .ref (B + 1079)), (1, .int (bI b1)), (2, .int x2)] []) {b1 : Bool} {x2 : Int32} {s : uS} {r : uS}  (h : fb_X12_sender_50 K50 b1 x2 s = some r) : GU l D A B Z mX12_sender 6 (r, none) s 50 [(0, .ref (B + 1079)), (1, .int (bI b1)), (2, .int x2)] [] := by
  unfold fb_X12_sender_50 at h
  refine uu_iload_n dX12_sender_50 rfl (List.mem_of_getElem? (i := 2) rfl) ?_
  refine uu_aload_n dX12_sender_51 rfl (List.mem_of_getElem? (i := 0) rfl) ?_
  refine uu_geti (ci := 12) (N := 153) fX12_1142 (by decide) so_1079.is (by decide) (by decide) dX12_sender_52 ?_
  refine uu_icmp_ge (tgt := 76) dX12_sender_55 (by decide) (fun c1 => ?_) (fun c1 => ?_)
  · replace h := uu_pos c1 h
    refine uu_lv [0, 1] (lv' := [(0, .ref (B + 1079)), (1, .int (bI b1))]) rfl ?_
    exact xb_X12_sender_76 uk  h
  · replace h := uu_neg c1 h
    refine uu_aload_n dX12_sender_58 rfl (List.mem_of_getElem? (i := 0) rfl) ?_
    refine uu_geta (ci := 12) (N := 153) fX12_1150 (by decide) so_1079.is (by decide) (c := 1148) (by decide) dX12_sender_59 ?_
    refine uu_iload_n dX12_sender_62 rfl (List.mem_of_getElem? (i := 2) rfl) ?_
    refine uu_aload_n dX12_sender_63 rfl (List.mem_of_getElem? (i := 0) rfl) ?_
    refine uu_geta (ci := 12) (N := 153) fX12_116 (by decide) so_1079.is (by decide) (c := 1093) (by decide) dX12_sender_64 ?_
    refine uu_iload_n dX12_sender_67 rfl (List.mem_of_getElem? (i := 2) rfl) ?_
    obtain ⟨v2, e3, h⟩ := uu_ob h
    refine uu_iald e3 dX12_sender_68 ?_
    obtain ⟨s4, e5, h⟩ := uu_ob h
    refine uu_iast e5 dX12_sender_69 ?_
    refine uu_iinc (v := x2 + 1) dX12_sender_70 (k := 2) rfl rfl (by decide) rfl ?_
    refine uu_goto (tgt := 50) dX12_sender_73 (by decide) ?_
    refine uu_lv [1, 2, 0] (lv' := [(0, .ref (B + 1079)), (1, .int (bI b1)), (2, .int (x2 + 1))]) rfl ?_
    exact hK50 b1 (x2 + 1) _ _ h
def fn_X12_sender_50  : Nat → Bool → Int32 → uS → Option uS
  | 0 => fun _ _ _ => none
  | n + 1 => fb_X12_sender_50 (fn_X12_sender_50  n)
set_option maxRecDepth 100000 in
set_option maxHeartbeats 4000000 in
theorem xn_X12_sender_50 {l : Launch} {D : va_G} {A : Nat → ClassId} {B : Nat} {Z : State → Heap → Prop} {vF : Value} (uk : uK B Z vF)   : ∀ (n : Nat) (b1 : Bool) (x2 : Int32)  (s : uS) (r : uS), fn_X12_sender_50  n b1 x2 s = some r → GU l D A B Z mX12_sender 6 (r, none) s 50 [(0, .ref (B + 1079)), (1, .int (bI b1)), (2, .int x2)] [] := by
  intro n
  induction n with
  | zero => intro b1 x2 s r h
            cases h
  | succ n ih => intro b1 x2 s r h
                 exact xb_X12_sender_50 uk ih  h
def fn_X12_sender  (s : uS) : Option uS := (fn_X12_stands kW_184 s).bind fun r2 => if r2.2 = true then ((fn_X12_stands kW_185 (wI r2.1 1079 130 0)).bind fun r6 => if r6.2 = true then (fb_X12_sender_76 r2.2 r6.1) else ((fn_X12_path r6.1).bind fun r9 => if r9.2 = true then (fn_X12_sender_50 uFu r9.2 0 (wI r9.1 1079 130 (r9.1.I 1079 21))) else (fn_X12_sender_50 uFu r9.2 0 (wI r9.1 1079 130 0)))) else (fb_X12_sender_76 r2.2 (wI r2.1 1079 130 0))
set_option maxRecDepth 100000 in
set_option maxHeartbeats 4000000 in
theorem xc_X12_sender {l : Launch} {D : va_G} {A : Nat → ClassId} {B : Nat} {Z : State → Heap → Prop} {vF : Value} (uk : uK B Z vF)  {s : uS} {r : uS}  (h : fn_X12_sender  s = some r) : CU l D A B Z 6 mX12_sender s [.ref (B + 1079)] (r, none) := by
  unfold fn_X12_sender at h
  refine cu_of rfl uk.1.1 (Nat.le_of_ble_eq_true rfl) ?_
  show GU _ _ _ _ _ _ _ _ _ 0 [(0, .ref (B + 1079))] []
  refine uu_aload_n dX12_sender_0 rfl (List.mem_of_getElem? (i := 0) rfl) ?_
  obtain ⟨cq1, cp1, cv1, cw1⟩ := uk.2.1 184 _ rfl
  refine uu_ldcwS cv1 dX12_sender_1 ?_
  obtain ⟨r2, e3, h⟩ := uu_ob h
  refine uu_cv (d1 := 4) (k := 1079) (ci := 12) (T := TX12) (N := 153) (As := [.ref cq1]) (st := []) (st' := [.int (bI r2.2)]) (xc_X12_stands uk cw1 e3) so_1079.is (by decide) rfl kX12_stands lX12_1074 sX12_stands (by decide) (Nat.le_of_ble_eq_true rfl) dX12_sender_4 rfl ?_
  refine uu_istore_n dX12_sender_7 rfl (by decide) rfl ?_
  refine uu_aload_n dX12_sender_8 rfl (List.mem_of_getElem? (i := 1) rfl) ?_
  refine uu_iconst (v := 0) dX12_sender_9 (by decide) ?_
  refine uu_puti (ft := .int) (ci := 12) (N := 153) fX12_1142 ptX12 (Or.inl rfl) (by decide) so_1079.is (by decide) (by decide) (by decide +kernel) rfl rfl dX12_sender_10 ?_
  refine uu_iload_n dX12_sender_13 rfl (List.mem_of_getElem? (i := 0) rfl) ?_
  refine uu_ifb_eq (tgt := 76) dX12_sender_14 (by decide) (fun c4 => ?_) (fun c4 => ?_)
  · replace h := uu_neg c4 h
    refine uu_lv [1, 0] (lv' := [(0, .ref (B + 1079)), (1, .int (bI r2.2))]) rfl ?_
    exact xb_X12_sender_76 uk  h
  · replace h := uu_pos c4 h
    refine uu_aload_n dX12_sender_17 rfl (List.mem_of_getElem? (i := 1) rfl) ?_
    obtain ⟨cq5, cp5, cv5, cw5⟩ := uk.2.1 185 _ rfl
    refine uu_ldcwS cv5 dX12_sender_18 ?_
    obtain ⟨r6, e7, h⟩ := uu_ob h
    refine uu_cv (d1 := 4) (k := 1079) (ci := 12) (T := TX12) (N := 153) (As := [.ref cq5]) (st := []) (st' := [.int (bI r6.2)]) (xc_X12_stands uk cw5 e7) so_1079.is (by decide) rfl kX12_stands lX12_1074 sX12_stands (by decide) (Nat.le_of_ble_eq_true rfl) dX12_sender_21 rfl ?_
    refine uu_ifb_ne (tgt := 76) dX12_sender_24 (by decide) (fun c8 => ?_) (fun c8 => ?_)
    · replace h := uu_pos c8 h
      refine uu_lv [1, 0] (lv' := [(0, .ref (B + 1079)), (1, .int (bI r2.2))]) rfl ?_
      exact xb_X12_sender_76 uk  h
    · replace h := uu_neg c8 h
      refine uu_aload_n dX12_sender_27 rfl (List.mem_of_getElem? (i := 1) rfl) ?_
      obtain ⟨r9, e10, h⟩ := uu_ob h
      refine uu_cv (d1 := 5) (k := 1079) (ci := 12) (T := TX12) (N := 153) (As := []) (st := []) (st' := [.int (bI r9.2)]) (xc_X12_path uk  e10) so_1079.is (by decide) rfl kX12_path lX12_1147 sX12_path (by decide) (Nat.le_of_ble_eq_true rfl) dX12_sender_28 rfl ?_
      refine uu_istore_n dX12_sender_31 rfl (by decide) rfl ?_
      refine uu_aload_n dX12_sender_32 rfl (List.mem_of_getElem? (i := 1) rfl) ?_
      refine uu_iload_n dX12_sender_33 rfl (List.mem_of_getElem? (i := 0) rfl) ?_
      refine uu_ifb_eq (tgt := 44) dX12_sender_34 (by decide) (fun c11 => ?_) (fun c11 => ?_)
      · replace h := uu_neg c11 h
        refine uu_iconst (v := 0) dX12_sender_44 (by decide) ?_
        refine uu_puti (ft := .int) (ci := 12) (N := 153) fX12_1142 ptX12 (Or.inl rfl) (by decide) so_1079.is (by decide) (by decide) (by decide +kernel) rfl rfl dX12_sender_45 ?_
        refine uu_iconst (v := 0) dX12_sender_48 (by decide) ?_
        refine uu_istore_n dX12_sender_49 rfl (by decide) rfl ?_
        refine uu_lv [2, 1, 0] (lv' := [(0, .ref (B + 1079)), (1, .int (bI r9.2)), (2, .int 0)]) rfl ?_
        exact xn_X12_sender_50 uk  _ _ _ _ _ h
      · replace h := uu_pos c11 h
        refine uu_aload_n dX12_sender_37 rfl (List.mem_of_getElem? (i := 1) rfl) ?_
        refine uu_geti (ci := 12) (N := 153) fX12_110 (by decide) so_1079.is (by decide) (by decide) dX12_sender_38 ?_
        refine uu_goto (tgt := 45) dX12_sender_41 (by decide) ?_
        refine uu_puti (ft := .int) (ci := 12) (N := 153) fX12_1142 ptX12 (Or.inl rfl) (by decide) so_1079.is (by decide) (by decide) (by decide +kernel) rfl rfl dX12_sender_45 ?_
        refine uu_iconst (v := 0) dX12_sender_48 (by decide) ?_
        refine uu_istore_n dX12_sender_49 rfl (by decide) rfl ?_
        refine uu_lv [2, 1, 0] (lv' := [(0, .ref (B + 1079)), (1, .int (bI r9.2)), (2, .int 0)]) rfl ?_
        exact xn_X12_sender_50 uk  _ _ _ _ _ h
abbrev mX12_transact : hM := (yX12_transact, cX12_transact, 1, none)
theorem dX12_transact_0 : decode cX12_transact 0 = .ok (.aload_n 0, 1) := by decide +kernel
theorem dX12_transact_1 : decode cX12_transact 1 = .ok (.ldc_w 1100, 3) := by decide +kernel
theorem kX12_first : h_ml mX12_first 1 := ⟨h_t10 187 rfl rfl, h_t1 16 rfl rfl, ⟨by decide, by decide, by decide +kernel⟩, by decide⟩
theorem lX12_1081 : Cond.methodLink RX12 1081 mX12_first.1 ∈ lw_g := h_t10 184 rfl rfl
theorem sX12_first : Cond.instanceMethod mX12_first.1 ∈ lw_g ∧ Cond.selects mX12_first.1.cls mX12_first.1 mX12_first.1 ∈ lw_g := ⟨h_t10 186 rfl rfl, h_ins 238 rfl⟩
theorem dX12_transact_4 : decode cX12_transact 4 = .ok (.invokevirtual 1081, 3) := by decide +kernel
theorem dX12_transact_7 : decode cX12_transact 7 = .ok (.ifCond .eq 10, 3) := by decide +kernel
theorem dX12_transact_17 : decode cX12_transact 17 = .ok (.aload_n 0, 1) := by decide +kernel
theorem dX12_transact_18 : decode cX12_transact 18 = .ok (.ldc_w 1101, 3) := by decide +kernel
theorem dX12_transact_21 : decode cX12_transact 21 = .ok (.invokevirtual 1081, 3) := by decide +kernel
theorem dX12_transact_24 : decode cX12_transact 24 = .ok (.ifCond .eq 10, 3) := by decide +kernel
theorem dX12_transact_34 : decode cX12_transact 34 = .ok (.aload_n 0, 1) := by decide +kernel
theorem dX12_transact_35 : decode cX12_transact 35 = .ok (.ldc_w 1103, 3) := by decide +kernel
theorem dX12_transact_38 : decode cX12_transact 38 = .ok (.invokevirtual 1081, 3) := by decide +kernel
theorem dX12_transact_41 : decode cX12_transact 41 = .ok (.pop, 1) := by decide +kernel
theorem dX12_transact_42 : decode cX12_transact 42 = .ok (.aload_n 0, 1) := by decide +kernel
theorem kX12_data : h_ml mX12_data 0 := ⟨h_t11 19 rfl rfl, h_t1 16 rfl rfl, ⟨by decide, by decide, by decide +kernel⟩, by decide⟩
theorem lX12_1131 : Cond.methodLink RX12 1131 mX12_data.1 ∈ lw_g := h_t11 16 rfl rfl
theorem sX12_data : Cond.instanceMethod mX12_data.1 ∈ lw_g ∧ Cond.selects mX12_data.1.cls mX12_data.1 mX12_data.1 ∈ lw_g := ⟨h_t11 18 rfl rfl, h_ins 249 rfl⟩
theorem dX12_transact_43 : decode cX12_transact 43 = .ok (.invokevirtual 1131, 3) := by decide +kernel
theorem dX12_transact_46 : decode cX12_transact 46 = .ok (.return_, 1) := by decide +kernel
theorem dX12_transact_27 : decode cX12_transact 27 = .ok (.aload_n 0, 1) := by decide +kernel
theorem kX12_recipient : h_ml mX12_recipient 0 := ⟨h_t11 3 rfl rfl, h_t1 16 rfl rfl, ⟨by decide, by decide, by decide +kernel⟩, by decide⟩
theorem lX12_1128 : Cond.methodLink RX12 1128 mX12_recipient.1 ∈ lw_g := h_t11 0 rfl rfl
theorem sX12_recipient : Cond.instanceMethod mX12_recipient.1 ∈ lw_g ∧ Cond.selects mX12_recipient.1.cls mX12_recipient.1 mX12_recipient.1 ∈ lw_g := ⟨h_t11 2 rfl rfl, h_ins 247 rfl⟩
theorem dX12_transact_28 : decode cX12_transact 28 = .ok (.invokevirtual 1128, 3) := by decide +kernel
theorem dX12_transact_31 : decode cX12_transact 31 = .ok (.goto 15, 3) := by decide +kernel
theorem dX12_transact_10 : decode cX12_transact 10 = .ok (.aload_n 0, 1) := by decide +kernel
theorem kX12_sender : h_ml mX12_sender 0 := ⟨h_t10 224 rfl rfl, h_t1 16 rfl rfl, ⟨by decide, by decide, by decide +kernel⟩, by decide⟩
theorem lX12_1125 : Cond.methodLink RX12 1125 mX12_sender.1 ∈ lw_g := h_t10 221 rfl rfl
theorem sX12_sender : Cond.instanceMethod mX12_sender.1 ∈ lw_g ∧ Cond.selects mX12_sender.1.cls mX12_sender.1 mX12_sender.1 ∈ lw_g := ⟨h_t10 223 rfl rfl, h_ins 244 rfl⟩
theorem dX12_transact_11 : decode cX12_transact 11 = .ok (.invokevirtual 1125, 3) := by decide +kernel
theorem dX12_transact_14 : decode cX12_transact 14 = .ok (.goto 32, 3) := by decide +kernel
def fn_X12_transact  (s : uS) : Option uS := (fn_X12_first kW_172 s).bind fun r2 => if r2.2 = true then ((fn_X12_sender r2.1).bind fun s16 => some s16) else ((fn_X12_first kW_173 r2.1).bind fun r6 => if r6.2 = true then ((fn_X12_recipient r6.1).bind fun s14 => some s14) else ((fn_X12_first kW_174 r6.1).bind fun r10 => (fn_X12_data r10.1).bind fun s12 => some s12))
set_option maxRecDepth 100000 in
set_option maxHeartbeats 4000000 in
theorem xc_X12_transact {l : Launch} {D : va_G} {A : Nat → ClassId} {B : Nat} {Z : State → Heap → Prop} {vF : Value} (uk : uK B Z vF)  {s : uS} {r : uS}  (h : fn_X12_transact  s = some r) : CU l D A B Z 8 mX12_transact s [.ref (B + 1079)] (r, none) := by
  unfold fn_X12_transact at h
  refine cu_of rfl uk.1.1 (Nat.le_of_ble_eq_true rfl) ?_
  show GU _ _ _ _ _ _ _ _ _ 0 [(0, .ref (B + 1079))] []
  refine uu_aload_n dX12_transact_0 rfl (List.mem_of_getElem? (i := 0) rfl) ?_
  obtain ⟨cq1, cp1, cv1, cw1⟩ := uk.2.1 172 _ rfl
  refine uu_ldcwS cv1 dX12_transact_1 ?_
  obtain ⟨r2, e3, h⟩ := uu_ob h
  refine uu_cv (d1 := 5) (k := 1079) (ci := 12) (T := TX12) (N := 153) (As := [.ref cq1]) (st := []) (st' := [.int (bI r2.2)]) (xc_X12_first uk cw1 e3) so_1079.is (by decide) rfl kX12_first lX12_1081 sX12_first (by decide) (Nat.le_of_ble_eq_true rfl) dX12_transact_4 rfl ?_
  refine uu_ifb_eq (tgt := 17) dX12_transact_7 (by decide) (fun c4 => ?_) (fun c4 => ?_)
  · replace h := uu_neg c4 h
    refine uu_aload_n dX12_transact_17 rfl (List.mem_of_getElem? (i := 0) rfl) ?_
    obtain ⟨cq5, cp5, cv5, cw5⟩ := uk.2.1 173 _ rfl
    refine uu_ldcwS cv5 dX12_transact_18 ?_
    obtain ⟨r6, e7, h⟩ := uu_ob h
    refine uu_cv (d1 := 5) (k := 1079) (ci := 12) (T := TX12) (N := 153) (As := [.ref cq5]) (st := []) (st' := [.int (bI r6.2)]) (xc_X12_first uk cw5 e7) so_1079.is (by decide) rfl kX12_first lX12_1081 sX12_first (by decide) (Nat.le_of_ble_eq_true rfl) dX12_transact_21 rfl ?_
    refine uu_ifb_eq (tgt := 34) dX12_transact_24 (by decide) (fun c8 => ?_) (fun c8 => ?_)
    · replace h := uu_neg c8 h
      refine uu_aload_n dX12_transact_34 rfl (List.mem_of_getElem? (i := 0) rfl) ?_
      obtain ⟨cq9, cp9, cv9, cw9⟩ := uk.2.1 174 _ rfl
      refine uu_ldcwS cv9 dX12_transact_35 ?_
      obtain ⟨r10, e11, h⟩ := uu_ob h
      refine uu_cv (d1 := 5) (k := 1079) (ci := 12) (T := TX12) (N := 153) (As := [.ref cq9]) (st := []) (st' := [.int (bI r10.2)]) (xc_X12_first uk cw9 e11) so_1079.is (by decide) rfl kX12_first lX12_1081 sX12_first (by decide) (Nat.le_of_ble_eq_true rfl) dX12_transact_38 rfl ?_
      refine uu_pop dX12_transact_41 rfl ?_
      refine uu_aload_n dX12_transact_42 rfl (List.mem_of_getElem? (i := 0) rfl) ?_
      obtain ⟨s12, e13, h⟩ := uu_ob h
      refine uu_cv (d1 := 6) (k := 1079) (ci := 12) (T := TX12) (N := 153) (As := []) (st := []) (st' := []) (xc_X12_data uk  e13) so_1079.is (by decide) rfl kX12_data lX12_1131 sX12_data (by decide) (Nat.le_of_ble_eq_true rfl) dX12_transact_43 rfl ?_
      have hr := Option.some.inj h
      subst hr
      exact uu_vret rfl dX12_transact_46
    · replace h := uu_pos c8 h
      refine uu_aload_n dX12_transact_27 rfl (List.mem_of_getElem? (i := 0) rfl) ?_
      obtain ⟨s14, e15, h⟩ := uu_ob h
      refine uu_cv (d1 := 7) (k := 1079) (ci := 12) (T := TX12) (N := 153) (As := []) (st := []) (st' := []) (xc_X12_recipient uk  e15) so_1079.is (by decide) rfl kX12_recipient lX12_1128 sX12_recipient (by decide) (Nat.le_of_ble_eq_true rfl) dX12_transact_28 rfl ?_
      refine uu_goto (tgt := 46) dX12_transact_31 (by decide) ?_
      have hr := Option.some.inj h
      subst hr
      exact uu_vret rfl dX12_transact_46
  · replace h := uu_pos c4 h
    refine uu_aload_n dX12_transact_10 rfl (List.mem_of_getElem? (i := 0) rfl) ?_
    obtain ⟨s16, e17, h⟩ := uu_ob h
    refine uu_cv (d1 := 6) (k := 1079) (ci := 12) (T := TX12) (N := 153) (As := []) (st := []) (st' := []) (xc_X12_sender uk  e17) so_1079.is (by decide) rfl kX12_sender lX12_1125 sX12_sender (by decide) (Nat.le_of_ble_eq_true rfl) dX12_transact_11 rfl ?_
    refine uu_goto (tgt := 46) dX12_transact_14 (by decide) ?_
    have hr := Option.some.inj h
    subst hr
    exact uu_vret rfl dX12_transact_46
abbrev mX12_order : hM := (yX12_order, cX12_order, 2, none)
theorem dX12_order_128 : decode cX12_order 128 = .ok (.aload_n 0, 1) := by decide +kernel
theorem dX12_order_129 : decode cX12_order 129 = .ok (.getfield 1012, 3) := by decide +kernel
theorem dX12_order_132 : decode cX12_order 132 = .ok (.ifCond .eq 10, 3) := by decide +kernel
theorem dX12_order_142 : decode cX12_order 142 = .ok (.aload_n 0, 1) := by decide +kernel
theorem dX12_order_143 : decode cX12_order 143 = .ok (.iconst 4, 1) := by decide +kernel
theorem dX12_order_144 : decode cX12_order 144 = .ok (.ldc_w 1108, 3) := by decide +kernel
theorem dX12_order_147 : decode cX12_order 147 = .ok (.invokevirtual 974, 3) := by decide +kernel
theorem dX12_order_150 : decode cX12_order 150 = .ok (.goto 11, 3) := by decide +kernel
theorem dX12_order_161 : decode cX12_order 161 = .ok (.return_, 1) := by decide +kernel
theorem dX12_order_135 : decode cX12_order 135 = .ok (.aload_n 0, 1) := by decide +kernel
theorem kX12_transact : h_ml mX12_transact 0 := ⟨h_t10 220 rfl rfl, h_t1 16 rfl rfl, ⟨by decide, by decide, by decide +kernel⟩, by decide⟩
theorem lX12_1105 : Cond.methodLink RX12 1105 mX12_transact.1 ∈ lw_g := h_t10 217 rfl rfl
theorem sX12_transact : Cond.instanceMethod mX12_transact.1 ∈ lw_g ∧ Cond.selects mX12_transact.1.cls mX12_transact.1 mX12_transact.1 ∈ lw_g := ⟨h_t10 219 rfl rfl, h_ins 243 rfl⟩
theorem dX12_order_136 : decode cX12_order 136 = .ok (.invokevirtual 1105, 3) := by decide +kernel
theorem dX12_order_139 : decode cX12_order 139 = .ok (.goto 22, 3) := by decide +kernel
theorem dX12_order_0 : decode cX12_order 0 = .ok (.aload_n 0, 1) := by decide +kernel
theorem dX12_order_1 : decode cX12_order 1 = .ok (.iload_n 1, 1) := by decide +kernel
theorem dX12_order_2 : decode cX12_order 2 = .ok (.putfield 1071, 3) := by decide +kernel
theorem dX12_order_5 : decode cX12_order 5 = .ok (.aload_n 0, 1) := by decide +kernel
theorem dX12_order_6 : decode cX12_order 6 = .ok (.ldc_w 1079, 3) := by decide +kernel
theorem dX12_order_9 : decode cX12_order 9 = .ok (.invokevirtual 1081, 3) := by decide +kernel
theorem dX12_order_12 : decode cX12_order 12 = .ok (.ifCond .eq 10, 3) := by decide +kernel
theorem dX12_order_22 : decode cX12_order 22 = .ok (.aload_n 0, 1) := by decide +kernel
theorem dX12_order_23 : decode cX12_order 23 = .ok (.ldc_w 1087, 3) := by decide +kernel
theorem dX12_order_26 : decode cX12_order 26 = .ok (.invokevirtual 1081, 3) := by decide +kernel
theorem dX12_order_29 : decode cX12_order 29 = .ok (.ifCond .eq 14, 3) := by decide +kernel
theorem dX12_order_43 : decode cX12_order 43 = .ok (.aload_n 0, 1) := by decide +kernel
theorem dX12_order_44 : decode cX12_order 44 = .ok (.ldc_w 1094, 3) := by decide +kernel
theorem dX12_order_47 : decode cX12_order 47 = .ok (.invokevirtual 1081, 3) := by decide +kernel
theorem dX12_order_50 : decode cX12_order 50 = .ok (.ifCond .eq 20, 3) := by decide +kernel
theorem dX12_order_70 : decode cX12_order 70 = .ok (.aload_n 0, 1) := by decide +kernel
theorem dX12_order_71 : decode cX12_order 71 = .ok (.ldc_w 1096, 3) := by decide +kernel
theorem dX12_order_74 : decode cX12_order 74 = .ok (.invokevirtual 1081, 3) := by decide +kernel
theorem dX12_order_77 : decode cX12_order 77 = .ok (.ifCond .eq 21, 3) := by decide +kernel
theorem dX12_order_98 : decode cX12_order 98 = .ok (.aload_n 0, 1) := by decide +kernel
theorem dX12_order_99 : decode cX12_order 99 = .ok (.ldc_w 1100, 3) := by decide +kernel
theorem dX12_order_102 : decode cX12_order 102 = .ok (.invokevirtual 1081, 3) := by decide +kernel
theorem dX12_order_105 : decode cX12_order 105 = .ok (.ifCond .ne 23, 3) := by decide +kernel
theorem dX12_order_108 : decode cX12_order 108 = .ok (.aload_n 0, 1) := by decide +kernel
theorem dX12_order_109 : decode cX12_order 109 = .ok (.ldc_w 1101, 3) := by decide +kernel
theorem dX12_order_112 : decode cX12_order 112 = .ok (.invokevirtual 1081, 3) := by decide +kernel
theorem dX12_order_115 : decode cX12_order 115 = .ok (.ifCond .ne 13, 3) := by decide +kernel
theorem dX12_order_118 : decode cX12_order 118 = .ok (.aload_n 0, 1) := by decide +kernel
theorem dX12_order_119 : decode cX12_order 119 = .ok (.ldc_w 1103, 3) := by decide +kernel
theorem dX12_order_122 : decode cX12_order 122 = .ok (.invokevirtual 1081, 3) := by decide +kernel
theorem dX12_order_125 : decode cX12_order 125 = .ok (.ifCond .eq 28, 3) := by decide +kernel
theorem dX12_order_153 : decode cX12_order 153 = .ok (.aload_n 0, 1) := by decide +kernel
theorem dX12_order_154 : decode cX12_order 154 = .ok (.iconst 4, 1) := by decide +kernel
theorem dX12_order_155 : decode cX12_order 155 = .ok (.ldc_w 1110, 3) := by decide +kernel
theorem dX12_order_158 : decode cX12_order 158 = .ok (.invokevirtual 974, 3) := by decide +kernel
theorem dX12_order_80 : decode cX12_order 80 = .ok (.aload_n 0, 1) := by decide +kernel
theorem dX12_order_81 : decode cX12_order 81 = .ok (.ldc_w 1098, 3) := by decide +kernel
theorem kX12_done : h_ml mX12_done 1 := ⟨h_t10 210 rfl rfl, h_t1 16 rfl rfl, ⟨by decide, by decide, by decide +kernel⟩, by decide⟩
theorem lX12_1091 : Cond.methodLink RX12 1091 mX12_done.1 ∈ lw_g := h_t10 207 rfl rfl
theorem sX12_done : Cond.instanceMethod mX12_done.1 ∈ lw_g ∧ Cond.selects mX12_done.1.cls mX12_done.1 mX12_done.1 ∈ lw_g := ⟨h_t10 209 rfl rfl, h_ins 242 rfl⟩
theorem dX12_order_84 : decode cX12_order 84 = .ok (.invokevirtual 1091, 3) := by decide +kernel
theorem dX12_order_87 : decode cX12_order 87 = .ok (.ifCond .eq 74, 3) := by decide +kernel
theorem dX12_order_90 : decode cX12_order 90 = .ok (.aload_n 0, 1) := by decide +kernel
theorem dX12_order_91 : decode cX12_order 91 = .ok (.iconst 0, 1) := by decide +kernel
theorem dX12_order_92 : decode cX12_order 92 = .ok (.putfield 11, 3) := by decide +kernel
theorem dX12_order_95 : decode cX12_order 95 = .ok (.goto 66, 3) := by decide +kernel
theorem dX12_order_53 : decode cX12_order 53 = .ok (.aload_n 0, 1) := by decide +kernel
theorem dX12_order_54 : decode cX12_order 54 = .ok (.ldc_w 1089, 3) := by decide +kernel
theorem dX12_order_57 : decode cX12_order 57 = .ok (.invokevirtual 1091, 3) := by decide +kernel
theorem dX12_order_60 : decode cX12_order 60 = .ok (.ifCond .eq 101, 3) := by decide +kernel
theorem dX12_order_63 : decode cX12_order 63 = .ok (.aload_n 0, 1) := by decide +kernel
theorem dX12_order_64 : decode cX12_order 64 = .ok (.invokevirtual 1015, 3) := by decide +kernel
theorem dX12_order_67 : decode cX12_order 67 = .ok (.goto 94, 3) := by decide +kernel
theorem dX12_order_32 : decode cX12_order 32 = .ok (.aload_n 0, 1) := by decide +kernel
theorem dX12_order_33 : decode cX12_order 33 = .ok (.ldc_w 1089, 3) := by decide +kernel
theorem dX12_order_36 : decode cX12_order 36 = .ok (.invokevirtual 1091, 3) := by decide +kernel
theorem dX12_order_39 : decode cX12_order 39 = .ok (.pop, 1) := by decide +kernel
theorem dX12_order_40 : decode cX12_order 40 = .ok (.goto 121, 3) := by decide +kernel
theorem dX12_order_15 : decode cX12_order 15 = .ok (.aload_n 0, 1) := by decide +kernel
theorem kX12_hello : h_ml mX12_hello 0 := ⟨h_t10 195 rfl rfl, h_t1 16 rfl rfl, ⟨by decide, by decide, by decide +kernel⟩, by decide⟩
theorem lX12_1084 : Cond.methodLink RX12 1084 mX12_hello.1 ∈ lw_g := h_t10 192 rfl rfl
theorem sX12_hello : Cond.instanceMethod mX12_hello.1 ∈ lw_g ∧ Cond.selects mX12_hello.1.cls mX12_hello.1 mX12_hello.1 ∈ lw_g := ⟨h_t10 194 rfl rfl, h_ins 240 rfl⟩
theorem dX12_order_16 : decode cX12_order 16 = .ok (.invokevirtual 1084, 3) := by decide +kernel
theorem dX12_order_19 : decode cX12_order 19 = .ok (.goto 142, 3) := by decide +kernel
def fb_X12_order_128   (s : uS) : Option uS := if (s.I 1079 114) = 0 then ((fn_X12_line 4 kW_175 s).bind fun s3 => some s3) else ((fn_X12_transact s).bind fun s5 => some s5)
set_option maxRecDepth 100000 in
set_option maxHeartbeats 4000000 in
theorem xb_X12_order_128 {l : Launch} {D : va_G} {A : Nat → ClassId} {B : Nat} {Z : State → Heap → Prop} {vF : Value} (uk : uK B Z vF)    {s : uS} {r : uS}  (h : fb_X12_order_128   s = some r) : GU l D A B Z mX12_order 9 (r, none) s 128 [(0, .ref (B + 1079))] [] := by
  unfold fb_X12_order_128 at h
  refine uu_aload_n dX12_order_128 rfl (List.mem_of_getElem? (i := 0) rfl) ?_
  refine uu_geti (ci := 12) (N := 153) fX12_1012 (by decide) so_1079.is (by decide) (by decide) dX12_order_129 ?_
  refine uu_if_eq (tgt := 142) dX12_order_132 (by decide) (fun c1 => ?_) (fun c1 => ?_)
  · replace h := uu_pos c1 h
    refine uu_aload_n dX12_order_142 rfl (List.mem_of_getElem? (i := 0) rfl) ?_
    refine uu_iconst (v := 4) dX12_order_143 (by decide) ?_
    obtain ⟨cq2, cp2, cv2, cw2⟩ := uk.2.1 175 _ rfl
    refine uu_ldcwS cv2 dX12_order_144 ?_
    obtain ⟨s3, e4, h⟩ := uu_ob h
    refine uu_cv (d1 := 5) (k := 1079) (ci := 12) (T := TX12) (N := 153) (As := [.int 4, .ref cq2]) (st := []) (st' := []) (xc_X12_line uk cw2 e4) so_1079.is (by decide) rfl kX12_line lX12_974 sX12_line (by decide) (Nat.le_of_ble_eq_true rfl) dX12_order_147 rfl ?_
    refine uu_goto (tgt := 161) dX12_order_150 (by decide) ?_
    have hr := Option.some.inj h
    subst hr
    exact uu_vret rfl dX12_order_161
  · replace h := uu_neg c1 h
    refine uu_aload_n dX12_order_135 rfl (List.mem_of_getElem? (i := 0) rfl) ?_
    obtain ⟨s5, e6, h⟩ := uu_ob h
    refine uu_cv (d1 := 8) (k := 1079) (ci := 12) (T := TX12) (N := 153) (As := []) (st := []) (st' := []) (xc_X12_transact uk  e6) so_1079.is (by decide) rfl kX12_transact lX12_1105 sX12_transact (by decide) (Nat.le_of_ble_eq_true rfl) dX12_order_136 rfl ?_
    refine uu_goto (tgt := 161) dX12_order_139 (by decide) ?_
    have hr := Option.some.inj h
    subst hr
    exact uu_vret rfl dX12_order_161
def fn_X12_order (x1 : Int32) (s : uS) : Option uS := (fn_X12_first kW_166 (wI s 1079 126 x1)).bind fun r2 => if r2.2 = true then ((fn_X12_hello r2.1).bind fun s45 => some s45) else ((fn_X12_first kW_167 r2.1).bind fun r6 => if r6.2 = true then ((fn_X12_done kW_168 r6.1).bind fun r43 => some r43.1) else ((fn_X12_first kW_169 r6.1).bind fun r10 => if r10.2 = true then ((fn_X12_done kW_168 r10.1).bind fun r37 => if r37.2 = true then ((fn_X12_reset r37.1).bind fun s40 => some s40) else (some r37.1)) else ((fn_X12_first kW_170 r10.1).bind fun r14 => if r14.2 = true then ((fn_X12_done kW_171 r14.1).bind fun r33 => if r33.2 = true then (some (wI r33.1 1079 113 0)) else (some r33.1)) else ((fn_X12_first kW_172 r14.1).bind fun r18 => if r18.2 = true then (fb_X12_order_128 r18.1) else ((fn_X12_first kW_173 r18.1).bind fun r22 => if r22.2 = true then (fb_X12_order_128 r22.1) else ((fn_X12_first kW_174 r22.1).bind fun r26 => if r26.2 = true then (fb_X12_order_128 r26.1) else ((fn_X12_line 4 kW_176 r26.1).bind fun s30 => some s30)))))))
set_option maxRecDepth 100000 in
set_option maxHeartbeats 4000000 in
theorem xc_X12_order {l : Launch} {D : va_G} {A : Nat → ClassId} {B : Nat} {Z : State → Heap → Prop} {vF : Value} (uk : uK B Z vF) {x1 : Int32} {s : uS} {r : uS}  (h : fn_X12_order x1 s = some r) : CU l D A B Z 9 mX12_order s [.ref (B + 1079), .int x1] (r, none) := by
  unfold fn_X12_order at h
  refine cu_of rfl uk.1.1 (Nat.le_of_ble_eq_true rfl) ?_
  show GU _ _ _ _ _ _ _ _ _ 0 [(0, .ref (B + 1079)), (1, .int x1)] []
  refine uu_aload_n dX12_order_0 rfl (List.mem_of_getElem? (i := 0) rfl) ?_
  refine uu_iload_n dX12_order_1 rfl (List.mem_of_getElem? (i := 1) rfl) ?_
  refine uu_puti (ft := .int) (ci := 12) (N := 153) fX12_1071 ptX12 (Or.inl rfl) (by decide) so_1079.is (by decide) (by decide) (by decide +kernel) rfl rfl dX12_order_2 ?_
  refine uu_aload_n dX12_order_5 rfl (List.mem_of_getElem? (i := 0) rfl) ?_
  obtain ⟨cq1, cp1, cv1, cw1⟩ := uk.2.1 166 _ rfl
  refine uu_ldcwS cv1 dX12_order_6 ?_
  obtain ⟨r2, e3, h⟩ := uu_ob h
  refine uu_cv (d1 := 5) (k := 1079) (ci := 12) (T := TX12) (N := 153) (As := [.ref cq1]) (st := []) (st' := [.int (bI r2.2)]) (xc_X12_first uk cw1 e3) so_1079.is (by decide) rfl kX12_first lX12_1081 sX12_first (by decide) (Nat.le_of_ble_eq_true rfl) dX12_order_9 rfl ?_
  refine uu_ifb_eq (tgt := 22) dX12_order_12 (by decide) (fun c4 => ?_) (fun c4 => ?_)
  · replace h := uu_neg c4 h
    refine uu_aload_n dX12_order_22 rfl (List.mem_of_getElem? (i := 0) rfl) ?_
    obtain ⟨cq5, cp5, cv5, cw5⟩ := uk.2.1 167 _ rfl
    refine uu_ldcwS cv5 dX12_order_23 ?_
    obtain ⟨r6, e7, h⟩ := uu_ob h
    refine uu_cv (d1 := 5) (k := 1079) (ci := 12) (T := TX12) (N := 153) (As := [.ref cq5]) (st := []) (st' := [.int (bI r6.2)]) (xc_X12_first uk cw5 e7) so_1079.is (by decide) rfl kX12_first lX12_1081 sX12_first (by decide) (Nat.le_of_ble_eq_true rfl) dX12_order_26 rfl ?_
    refine uu_ifb_eq (tgt := 43) dX12_order_29 (by decide) (fun c8 => ?_) (fun c8 => ?_)
    · replace h := uu_neg c8 h
      refine uu_aload_n dX12_order_43 rfl (List.mem_of_getElem? (i := 0) rfl) ?_
      obtain ⟨cq9, cp9, cv9, cw9⟩ := uk.2.1 169 _ rfl
      refine uu_ldcwS cv9 dX12_order_44 ?_
      obtain ⟨r10, e11, h⟩ := uu_ob h
      refine uu_cv (d1 := 5) (k := 1079) (ci := 12) (T := TX12) (N := 153) (As := [.ref cq9]) (st := []) (st' := [.int (bI r10.2)]) (xc_X12_first uk cw9 e11) so_1079.is (by decide) rfl kX12_first lX12_1081 sX12_first (by decide) (Nat.le_of_ble_eq_true rfl) dX12_order_47 rfl ?_
      refine uu_ifb_eq (tgt := 70) dX12_order_50 (by decide) (fun c12 => ?_) (fun c12 => ?_)
      · replace h := uu_neg c12 h
        refine uu_aload_n dX12_order_70 rfl (List.mem_of_getElem? (i := 0) rfl) ?_
        obtain ⟨cq13, cp13, cv13, cw13⟩ := uk.2.1 170 _ rfl
        refine uu_ldcwS cv13 dX12_order_71 ?_
        obtain ⟨r14, e15, h⟩ := uu_ob h
        refine uu_cv (d1 := 5) (k := 1079) (ci := 12) (T := TX12) (N := 153) (As := [.ref cq13]) (st := []) (st' := [.int (bI r14.2)]) (xc_X12_first uk cw13 e15) so_1079.is (by decide) rfl kX12_first lX12_1081 sX12_first (by decide) (Nat.le_of_ble_eq_true rfl) dX12_order_74 rfl ?_
        refine uu_ifb_eq (tgt := 98) dX12_order_77 (by decide) (fun c16 => ?_) (fun c16 => ?_)
        · replace h := uu_neg c16 h
          refine uu_aload_n dX12_order_98 rfl (List.mem_of_getElem? (i := 0) rfl) ?_
          obtain ⟨cq17, cp17, cv17, cw17⟩ := uk.2.1 172 _ rfl
          refine uu_ldcwS cv17 dX12_order_99 ?_
          obtain ⟨r18, e19, h⟩ := uu_ob h
          refine uu_cv (d1 := 5) (k := 1079) (ci := 12) (T := TX12) (N := 153) (As := [.ref cq17]) (st := []) (st' := [.int (bI r18.2)]) (xc_X12_first uk cw17 e19) so_1079.is (by decide) rfl kX12_first lX12_1081 sX12_first (by decide) (Nat.le_of_ble_eq_true rfl) dX12_order_102 rfl ?_
          refine uu_ifb_ne (tgt := 128) dX12_order_105 (by decide) (fun c20 => ?_) (fun c20 => ?_)
          · replace h := uu_pos c20 h
            refine uu_lv [0] (lv' := [(0, .ref (B + 1079))]) rfl ?_
            exact xb_X12_order_128 uk  h
          · replace h := uu_neg c20 h
            refine uu_aload_n dX12_order_108 rfl (List.mem_of_getElem? (i := 0) rfl) ?_
            obtain ⟨cq21, cp21, cv21, cw21⟩ := uk.2.1 173 _ rfl
            refine uu_ldcwS cv21 dX12_order_109 ?_
            obtain ⟨r22, e23, h⟩ := uu_ob h
            refine uu_cv (d1 := 5) (k := 1079) (ci := 12) (T := TX12) (N := 153) (As := [.ref cq21]) (st := []) (st' := [.int (bI r22.2)]) (xc_X12_first uk cw21 e23) so_1079.is (by decide) rfl kX12_first lX12_1081 sX12_first (by decide) (Nat.le_of_ble_eq_true rfl) dX12_order_112 rfl ?_
            refine uu_ifb_ne (tgt := 128) dX12_order_115 (by decide) (fun c24 => ?_) (fun c24 => ?_)
            · replace h := uu_pos c24 h
              refine uu_lv [0] (lv' := [(0, .ref (B + 1079))]) rfl ?_
              exact xb_X12_order_128 uk  h
            · replace h := uu_neg c24 h
              refine uu_aload_n dX12_order_118 rfl (List.mem_of_getElem? (i := 0) rfl) ?_
              obtain ⟨cq25, cp25, cv25, cw25⟩ := uk.2.1 174 _ rfl
              refine uu_ldcwS cv25 dX12_order_119 ?_
              obtain ⟨r26, e27, h⟩ := uu_ob h
              refine uu_cv (d1 := 5) (k := 1079) (ci := 12) (T := TX12) (N := 153) (As := [.ref cq25]) (st := []) (st' := [.int (bI r26.2)]) (xc_X12_first uk cw25 e27) so_1079.is (by decide) rfl kX12_first lX12_1081 sX12_first (by decide) (Nat.le_of_ble_eq_true rfl) dX12_order_122 rfl ?_
              refine uu_ifb_eq (tgt := 153) dX12_order_125 (by decide) (fun c28 => ?_) (fun c28 => ?_)
              · replace h := uu_neg c28 h
                refine uu_aload_n dX12_order_153 rfl (List.mem_of_getElem? (i := 0) rfl) ?_
                refine uu_iconst (v := 4) dX12_order_154 (by decide) ?_
                obtain ⟨cq29, cp29, cv29, cw29⟩ := uk.2.1 176 _ rfl
                refine uu_ldcwS cv29 dX12_order_155 ?_
                obtain ⟨s30, e31, h⟩ := uu_ob h
                refine uu_cv (d1 := 5) (k := 1079) (ci := 12) (T := TX12) (N := 153) (As := [.int 4, .ref cq29]) (st := []) (st' := []) (xc_X12_line uk cw29 e31) so_1079.is (by decide) rfl kX12_line lX12_974 sX12_line (by decide) (Nat.le_of_ble_eq_true rfl) dX12_order_158 rfl ?_
                have hr := Option.some.inj h
                subst hr
                exact uu_vret rfl dX12_order_161
              · replace h := uu_pos c28 h
                refine uu_lv [0] (lv' := [(0, .ref (B + 1079))]) rfl ?_
                exact xb_X12_order_128 uk  h
        · replace h := uu_pos c16 h
          refine uu_aload_n dX12_order_80 rfl (List.mem_of_getElem? (i := 0) rfl) ?_
          obtain ⟨cq32, cp32, cv32, cw32⟩ := uk.2.1 171 _ rfl
          refine uu_ldcwS cv32 dX12_order_81 ?_
          obtain ⟨r33, e34, h⟩ := uu_ob h
          refine uu_cv (d1 := 6) (k := 1079) (ci := 12) (T := TX12) (N := 153) (As := [.ref cq32]) (st := []) (st' := [.int (bI r33.2)]) (xc_X12_done uk cw32 e34) so_1079.is (by decide) rfl kX12_done lX12_1091 sX12_done (by decide) (Nat.le_of_ble_eq_true rfl) dX12_order_84 rfl ?_
          refine uu_ifb_eq (tgt := 161) dX12_order_87 (by decide) (fun c35 => ?_) (fun c35 => ?_)
          · replace h := uu_neg c35 h
            have hr := Option.some.inj h
            subst hr
            exact uu_vret rfl dX12_order_161
          · replace h := uu_pos c35 h
            refine uu_aload_n dX12_order_90 rfl (List.mem_of_getElem? (i := 0) rfl) ?_
            refine uu_iconst (v := 0) dX12_order_91 (by decide) ?_
            refine uu_puti (ft := .boolean) (ci := 12) (N := 153) fX12_11 ptX12 (Or.inl rfl) (by decide) so_1079.is (by decide) (by decide) (by decide +kernel) rfl rfl dX12_order_92 ?_
            refine uu_goto (tgt := 161) dX12_order_95 (by decide) ?_
            have hr := Option.some.inj h
            subst hr
            exact uu_vret rfl dX12_order_161
      · replace h := uu_pos c12 h
        refine uu_aload_n dX12_order_53 rfl (List.mem_of_getElem? (i := 0) rfl) ?_
        obtain ⟨cq36, cp36, cv36, cw36⟩ := uk.2.1 168 _ rfl
        refine uu_ldcwS cv36 dX12_order_54 ?_
        obtain ⟨r37, e38, h⟩ := uu_ob h
        refine uu_cv (d1 := 6) (k := 1079) (ci := 12) (T := TX12) (N := 153) (As := [.ref cq36]) (st := []) (st' := [.int (bI r37.2)]) (xc_X12_done uk cw36 e38) so_1079.is (by decide) rfl kX12_done lX12_1091 sX12_done (by decide) (Nat.le_of_ble_eq_true rfl) dX12_order_57 rfl ?_
        refine uu_ifb_eq (tgt := 161) dX12_order_60 (by decide) (fun c39 => ?_) (fun c39 => ?_)
        · replace h := uu_neg c39 h
          have hr := Option.some.inj h
          subst hr
          exact uu_vret rfl dX12_order_161
        · replace h := uu_pos c39 h
          refine uu_aload_n dX12_order_63 rfl (List.mem_of_getElem? (i := 0) rfl) ?_
          obtain ⟨s40, e41, h⟩ := uu_ob h
          refine uu_cv (d1 := 0) (k := 1079) (ci := 12) (T := TX12) (N := 153) (As := []) (st := []) (st' := []) (xc_X12_reset uk  e41) so_1079.is (by decide) rfl kX12_reset lX12_1015 sX12_reset (by decide) (Nat.le_of_ble_eq_true rfl) dX12_order_64 rfl ?_
          refine uu_goto (tgt := 161) dX12_order_67 (by decide) ?_
          have hr := Option.some.inj h
          subst hr
          exact uu_vret rfl dX12_order_161
    · replace h := uu_pos c8 h
      refine uu_aload_n dX12_order_32 rfl (List.mem_of_getElem? (i := 0) rfl) ?_
      obtain ⟨cq42, cp42, cv42, cw42⟩ := uk.2.1 168 _ rfl
      refine uu_ldcwS cv42 dX12_order_33 ?_
      obtain ⟨r43, e44, h⟩ := uu_ob h
      refine uu_cv (d1 := 6) (k := 1079) (ci := 12) (T := TX12) (N := 153) (As := [.ref cq42]) (st := []) (st' := [.int (bI r43.2)]) (xc_X12_done uk cw42 e44) so_1079.is (by decide) rfl kX12_done lX12_1091 sX12_done (by decide) (Nat.le_of_ble_eq_true rfl) dX12_order_36 rfl ?_
      refine uu_pop dX12_order_39 rfl ?_
      refine uu_goto (tgt := 161) dX12_order_40 (by decide) ?_
      have hr := Option.some.inj h
      subst hr
      exact uu_vret rfl dX12_order_161
  · replace h := uu_pos c4 h
    refine uu_aload_n dX12_order_15 rfl (List.mem_of_getElem? (i := 0) rfl) ?_
    obtain ⟨s45, e46, h⟩ := uu_ob h
    refine uu_cv (d1 := 6) (k := 1079) (ci := 12) (T := TX12) (N := 153) (As := []) (st := []) (st' := []) (xc_X12_hello uk  e46) so_1079.is (by decide) rfl kX12_hello lX12_1084 sX12_hello (by decide) (Nat.le_of_ble_eq_true rfl) dX12_order_16 rfl ?_
    refine uu_goto (tgt := 161) dX12_order_19 (by decide) ?_
    have hr := Option.some.inj h
    subst hr
    exact uu_vret rfl dX12_order_161
abbrev mX12_commandLine : hM := (yX12_commandLine, cX12_commandLine, 2, (some (.boolean)))
theorem dX12_commandLine_0 : decode cX12_commandLine 0 = .ok (.aload_n 0, 1) := by decide +kernel
theorem dX12_commandLine_1 : decode cX12_commandLine 1 = .ok (.getfield 1021, 3) := by decide +kernel
theorem dX12_commandLine_4 : decode cX12_commandLine 4 = .ok (.istore_n 1, 1) := by decide +kernel
theorem dX12_commandLine_5 : decode cX12_commandLine 5 = .ok (.aload_n 0, 1) := by decide +kernel
theorem dX12_commandLine_6 : decode cX12_commandLine 6 = .ok (.iconst 0, 1) := by decide +kernel
theorem dX12_commandLine_7 : decode cX12_commandLine 7 = .ok (.putfield 1021, 3) := by decide +kernel
theorem dX12_commandLine_10 : decode cX12_commandLine 10 = .ok (.iload_n 1, 1) := by decide +kernel
theorem dX12_commandLine_11 : decode cX12_commandLine 11 = .ok (.sipush 500, 3) := by decide +kernel
theorem dX12_commandLine_14 : decode cX12_commandLine 14 = .ok (.if_icmp .le 14, 3) := by decide +kernel
theorem dX12_commandLine_28 : decode cX12_commandLine 28 = .ok (.aload_n 0, 1) := by decide +kernel
theorem dX12_commandLine_29 : decode cX12_commandLine 29 = .ok (.iload_n 1, 1) := by decide +kernel
theorem kX12_order : h_ml mX12_order 1 := ⟨h_t10 182 rfl rfl, h_t1 16 rfl rfl, ⟨by decide, by decide, by decide +kernel⟩, by decide⟩
theorem lX12_1065 : Cond.methodLink RX12 1065 mX12_order.1 ∈ lw_g := h_t10 179 rfl rfl
theorem sX12_order : Cond.instanceMethod mX12_order.1 ∈ lw_g ∧ Cond.selects mX12_order.1.cls mX12_order.1 mX12_order.1 ∈ lw_g := ⟨h_t10 181 rfl rfl, h_ins 237 rfl⟩
theorem dX12_commandLine_30 : decode cX12_commandLine 30 = .ok (.invokevirtual 1065, 3) := by decide +kernel
theorem dX12_commandLine_33 : decode cX12_commandLine 33 = .ok (.iconst 1, 1) := by decide +kernel
theorem dX12_commandLine_34 : decode cX12_commandLine 34 = .ok (.ireturn, 1) := by decide +kernel
theorem dX12_commandLine_17 : decode cX12_commandLine 17 = .ok (.aload_n 0, 1) := by decide +kernel
theorem dX12_commandLine_18 : decode cX12_commandLine 18 = .ok (.iconst 4, 1) := by decide +kernel
theorem dX12_commandLine_19 : decode cX12_commandLine 19 = .ok (.ldc_w 1063, 3) := by decide +kernel
theorem dX12_commandLine_22 : decode cX12_commandLine 22 = .ok (.invokevirtual 974, 3) := by decide +kernel
theorem dX12_commandLine_25 : decode cX12_commandLine 25 = .ok (.goto 8, 3) := by decide +kernel
def fn_X12_commandLine  (s : uS) : Option (uS × Bool) := if (s.I 1079 122) ≤ 500 then ((fn_X12_order (s.I 1079 122) (wI s 1079 122 0)).bind fun s2 => some (s2, true)) else ((fn_X12_line 4 kW_164 (wI s 1079 122 0)).bind fun s5 => some (s5, true))
set_option maxRecDepth 100000 in
set_option maxHeartbeats 4000000 in
theorem xc_X12_commandLine {l : Launch} {D : va_G} {A : Nat → ClassId} {B : Nat} {Z : State → Heap → Prop} {vF : Value} (uk : uK B Z vF)  {s : uS} {r : (uS × Bool)}  (h : fn_X12_commandLine  s = some r) : CU l D A B Z 10 mX12_commandLine s [.ref (B + 1079)] (r.1, some (.int (bI r.2))) := by
  unfold fn_X12_commandLine at h
  refine cu_of rfl uk.1.1 (Nat.le_of_ble_eq_true rfl) ?_
  show GU _ _ _ _ _ _ _ _ _ 0 [(0, .ref (B + 1079))] []
  refine uu_aload_n dX12_commandLine_0 rfl (List.mem_of_getElem? (i := 0) rfl) ?_
  refine uu_geti (ci := 12) (N := 153) fX12_1021 (by decide) so_1079.is (by decide) (by decide) dX12_commandLine_1 ?_
  refine uu_istore_n dX12_commandLine_4 rfl (by decide) rfl ?_
  refine uu_aload_n dX12_commandLine_5 rfl (List.mem_of_getElem? (i := 1) rfl) ?_
  refine uu_iconst (v := 0) dX12_commandLine_6 (by decide) ?_
  refine uu_puti (ft := .int) (ci := 12) (N := 153) fX12_1021 ptX12 (Or.inl rfl) (by decide) so_1079.is (by decide) (by decide) (by decide +kernel) rfl rfl dX12_commandLine_7 ?_
  refine uu_iload_n dX12_commandLine_10 rfl (List.mem_of_getElem? (i := 0) rfl) ?_
  refine uu_sipush (v := 500) dX12_commandLine_11 (by decide) ?_
  refine uu_icmp_le (tgt := 28) dX12_commandLine_14 (by decide) (fun c1 => ?_) (fun c1 => ?_)
  · replace h := uu_pos c1 h
    refine uu_aload_n dX12_commandLine_28 rfl (List.mem_of_getElem? (i := 1) rfl) ?_
    refine uu_iload_n dX12_commandLine_29 rfl (List.mem_of_getElem? (i := 0) rfl) ?_
    obtain ⟨s2, e3, h⟩ := uu_ob h
    refine uu_cv (d1 := 9) (k := 1079) (ci := 12) (T := TX12) (N := 153) (As := [.int (s.I 1079 122)]) (st := []) (st' := []) (xc_X12_order uk  e3) so_1079.is (by decide) rfl kX12_order lX12_1065 sX12_order (by decide) (Nat.le_of_ble_eq_true rfl) dX12_commandLine_30 rfl ?_
    refine uu_iconst (v := 1) dX12_commandLine_33 (by decide) ?_
    have hr := Option.some.inj h
    subst hr
    exact uu_zret (x := bI true) rfl (bI_z _) dX12_commandLine_34
  · replace h := uu_neg c1 h
    refine uu_aload_n dX12_commandLine_17 rfl (List.mem_of_getElem? (i := 1) rfl) ?_
    refine uu_iconst (v := 4) dX12_commandLine_18 (by decide) ?_
    obtain ⟨cq4, cp4, cv4, cw4⟩ := uk.2.1 164 _ rfl
    refine uu_ldcwS cv4 dX12_commandLine_19 ?_
    obtain ⟨s5, e6, h⟩ := uu_ob h
    refine uu_cv (d1 := 5) (k := 1079) (ci := 12) (T := TX12) (N := 153) (As := [.int 4, .ref cq4]) (st := []) (st' := []) (xc_X12_line uk cw4 e6) so_1079.is (by decide) rfl kX12_line lX12_974 sX12_line (by decide) (Nat.le_of_ble_eq_true rfl) dX12_commandLine_22 rfl ?_
    refine uu_goto (tgt := 33) dX12_commandLine_25 (by decide) ?_
    refine uu_iconst (v := 1) dX12_commandLine_33 (by decide) ?_
    have hr := Option.some.inj h
    subst hr
    exact uu_zret (x := bI true) rfl (bI_z _) dX12_commandLine_34
abbrev mX12_plain : hM := (yX12_plain, cX12_plain, 3, none)
theorem dX12_plain_56 : decode cX12_plain 56 = .ok (.putfield 1054, 3) := by decide +kernel
theorem dX12_plain_59 : decode cX12_plain 59 = .ok (.iload_n 2, 1) := by decide +kernel
theorem dX12_plain_60 : decode cX12_plain 60 = .ok (.ifCond .eq 4, 3) := by decide +kernel
theorem dX12_plain_64 : decode cX12_plain 64 = .ok (.aload_n 0, 1) := by decide +kernel
theorem dX12_plain_65 : decode cX12_plain 65 = .ok (.aload_n 0, 1) := by decide +kernel
theorem dX12_plain_66 : decode cX12_plain 66 = .ok (.getfield 1051, 3) := by decide +kernel
theorem dX12_plain_69 : decode cX12_plain 69 = .ok (.iconst 1, 1) := by decide +kernel
theorem dX12_plain_70 : decode cX12_plain 70 = .ok (.iadd, 1) := by decide +kernel
theorem dX12_plain_71 : decode cX12_plain 71 = .ok (.putfield 1051, 3) := by decide +kernel
theorem dX12_plain_74 : decode cX12_plain 74 = .ok (.aload_n 0, 1) := by decide +kernel
theorem dX12_plain_75 : decode cX12_plain 75 = .ok (.iload_n 1, 1) := by decide +kernel
theorem kX12_mailByte : h_ml mX12_mailByte 1 := ⟨h_t8 18 rfl rfl, h_t1 16 rfl rfl, ⟨by decide, by decide, by decide +kernel⟩, by decide⟩
theorem lX12_1057 : Cond.methodLink RX12 1057 mX12_mailByte.1 ∈ lw_g := h_t8 15 rfl rfl
theorem sX12_mailByte : Cond.instanceMethod mX12_mailByte.1 ∈ lw_g ∧ Cond.selects mX12_mailByte.1.cls mX12_mailByte.1 mX12_mailByte.1 ∈ lw_g := ⟨h_t8 17 rfl rfl, h_ins 108 rfl⟩
theorem dX12_plain_76 : decode cX12_plain 76 = .ok (.invokevirtual 1057, 3) := by decide +kernel
theorem dX12_plain_79 : decode cX12_plain 79 = .ok (.return_, 1) := by decide +kernel
theorem dX12_plain_63 : decode cX12_plain 63 = .ok (.return_, 1) := by decide +kernel
theorem dX12_plain_38 : decode cX12_plain 38 = .ok (.istore_n 2, 1) := by decide +kernel
theorem dX12_plain_39 : decode cX12_plain 39 = .ok (.aload_n 0, 1) := by decide +kernel
theorem dX12_plain_40 : decode cX12_plain 40 = .ok (.aload_n 0, 1) := by decide +kernel
theorem dX12_plain_41 : decode cX12_plain 41 = .ok (.getfield 1054, 3) := by decide +kernel
theorem dX12_plain_44 : decode cX12_plain 44 = .ok (.ifCond .ne 7, 3) := by decide +kernel
theorem dX12_plain_51 : decode cX12_plain 51 = .ok (.iconst 1, 1) := by decide +kernel
theorem dX12_plain_52 : decode cX12_plain 52 = .ok (.goto 4, 3) := by decide +kernel
theorem dX12_plain_47 : decode cX12_plain 47 = .ok (.iload_n 2, 1) := by decide +kernel
theorem dX12_plain_48 : decode cX12_plain 48 = .ok (.ifCond .eq 7, 3) := by decide +kernel
theorem dX12_plain_55 : decode cX12_plain 55 = .ok (.iconst 0, 1) := by decide +kernel
theorem dX12_plain_0 : decode cX12_plain 0 = .ok (.aload_n 0, 1) := by decide +kernel
theorem dX12_plain_1 : decode cX12_plain 1 = .ok (.getfield 1018, 3) := by decide +kernel
theorem dX12_plain_4 : decode cX12_plain 4 = .ok (.ifCond .ne 9, 3) := by decide +kernel
theorem dX12_plain_13 : decode cX12_plain 13 = .ok (.iload_n 1, 1) := by decide +kernel
theorem dX12_plain_14 : decode cX12_plain 14 = .ok (.bipush 46, 2) := by decide +kernel
theorem dX12_plain_16 : decode cX12_plain 16 = .ok (.if_icmp .ne 21, 3) := by decide +kernel
theorem dX12_plain_37 : decode cX12_plain 37 = .ok (.iconst 0, 1) := by decide +kernel
theorem dX12_plain_19 : decode cX12_plain 19 = .ok (.aload_n 0, 1) := by decide +kernel
theorem dX12_plain_20 : decode cX12_plain 20 = .ok (.getfield 1051, 3) := by decide +kernel
theorem dX12_plain_23 : decode cX12_plain 23 = .ok (.ifCond .ne 14, 3) := by decide +kernel
theorem dX12_plain_26 : decode cX12_plain 26 = .ok (.aload_n 0, 1) := by decide +kernel
theorem dX12_plain_27 : decode cX12_plain 27 = .ok (.getfield 1054, 3) := by decide +kernel
theorem dX12_plain_30 : decode cX12_plain 30 = .ok (.ifCond .ne 7, 3) := by decide +kernel
theorem dX12_plain_33 : decode cX12_plain 33 = .ok (.iconst 1, 1) := by decide +kernel
theorem dX12_plain_34 : decode cX12_plain 34 = .ok (.goto 4, 3) := by decide +kernel
theorem dX12_plain_7 : decode cX12_plain 7 = .ok (.aload_n 0, 1) := by decide +kernel
theorem dX12_plain_8 : decode cX12_plain 8 = .ok (.iload_n 1, 1) := by decide +kernel
theorem kX12_cmdByte : h_ml mX12_cmdByte 1 := ⟨h_t11 29 rfl rfl, h_t1 16 rfl rfl, ⟨by decide, by decide, by decide +kernel⟩, by decide⟩
theorem lX12_1048 : Cond.methodLink RX12 1048 mX12_cmdByte.1 ∈ lw_g := h_t11 26 rfl rfl
theorem sX12_cmdByte : Cond.instanceMethod mX12_cmdByte.1 ∈ lw_g ∧ Cond.selects mX12_cmdByte.1.cls mX12_cmdByte.1 mX12_cmdByte.1 ∈ lw_g := ⟨h_t11 28 rfl rfl, h_ins 251 rfl⟩
theorem dX12_plain_9 : decode cX12_plain 9 = .ok (.invokevirtual 1048, 3) := by decide +kernel
theorem dX12_plain_12 : decode cX12_plain 12 = .ok (.return_, 1) := by decide +kernel
def fb_X12_plain_56  (x1 : Int32) (b2 : Bool) (bs0 : Bool) (s : uS) : Option uS := if b2 = true then (some (wI s 1079 124 (bI bs0))) else ((fn_X12_mailByte x1 (wI (wI s 1079 124 (bI bs0)) 1079 125 (((wI s 1079 124 (bI bs0)).I 1079 125) + 1))).bind fun s2 => some s2)
set_option maxRecDepth 100000 in
set_option maxHeartbeats 4000000 in
theorem xb_X12_plain_56 {l : Launch} {D : va_G} {A : Nat → ClassId} {B : Nat} {Z : State → Heap → Prop} {vF : Value} (uk : uK B Z vF)   {x1 : Int32} {b2 : Bool} {bs0 : Bool} {s : uS} {r : uS}  (h : fb_X12_plain_56  x1 b2 bs0 s = some r) : GU l D A B Z mX12_plain 1 (r, none) s 56 [(0, .ref (B + 1079)), (1, .int x1), (2, .int (bI b2))] [.int (bI bs0), .ref (B + 1079)] := by
  unfold fb_X12_plain_56 at h
  refine uu_puti (ft := .boolean) (ci := 12) (N := 153) fX12_1054 ptX12 (Or.inl rfl) (by decide) so_1079.is (by decide) (by decide) (by decide +kernel) (bI_z _) (bI_f _) dX12_plain_56 ?_
  refine uu_iload_n dX12_plain_59 rfl (List.mem_of_getElem? (i := 2) rfl) ?_
  refine uu_ifb_eq (tgt := 64) dX12_plain_60 (by decide) (fun c1 => ?_) (fun c1 => ?_)
  · replace h := uu_neg c1 h
    refine uu_aload_n dX12_plain_64 rfl (List.mem_of_getElem? (i := 0) rfl) ?_
    refine uu_aload_n dX12_plain_65 rfl (List.mem_of_getElem? (i := 0) rfl) ?_
    refine uu_geti (ci := 12) (N := 153) fX12_1051 (by decide) so_1079.is (by decide) (by decide) dX12_plain_66 ?_
    refine uu_iconst (v := 1) dX12_plain_69 (by decide) ?_
    refine uu_iadd dX12_plain_70 ?_
    refine uu_puti (ft := .int) (ci := 12) (N := 153) fX12_1051 ptX12 (Or.inl rfl) (by decide) so_1079.is (by decide) (by decide) (by decide +kernel) rfl rfl dX12_plain_71 ?_
    refine uu_aload_n dX12_plain_74 rfl (List.mem_of_getElem? (i := 0) rfl) ?_
    refine uu_iload_n dX12_plain_75 rfl (List.mem_of_getElem? (i := 1) rfl) ?_
    obtain ⟨s2, e3, h⟩ := uu_ob h
    refine uu_cv (d1 := 0) (k := 1079) (ci := 12) (T := TX12) (N := 153) (As := [.int x1]) (st := []) (st' := []) (xc_X12_mailByte uk  e3) so_1079.is (by decide) rfl kX12_mailByte lX12_1057 sX12_mailByte (by decide) (Nat.le_of_ble_eq_true rfl) dX12_plain_76 rfl ?_
    have hr := Option.some.inj h
    subst hr
    exact uu_vret rfl dX12_plain_79
  · replace h := uu_pos c1 h
    have hr := Option.some.inj h
    subst hr
    exact uu_vret rfl dX12_plain_63
def fb_X12_plain_38  (x1 : Int32) (bs0 : Bool) (s : uS) : Option uS := if (s.I 1079 124) = 0 then (if bs0 = true then (fb_X12_plain_56 x1 bs0 true s) else (fb_X12_plain_56 x1 bs0 false s)) else (fb_X12_plain_56 x1 bs0 true s)
set_option maxRecDepth 100000 in
set_option maxHeartbeats 4000000 in
theorem xb_X12_plain_38 {l : Launch} {D : va_G} {A : Nat → ClassId} {B : Nat} {Z : State → Heap → Prop} {vF : Value} (uk : uK B Z vF)   {x1 : Int32} {bs0 : Bool} {s : uS} {r : uS}  (h : fb_X12_plain_38  x1 bs0 s = some r) : GU l D A B Z mX12_plain 1 (r, none) s 38 [(0, .ref (B + 1079)), (1, .int x1)] [.int (bI bs0)] := by
  unfold fb_X12_plain_38 at h
  refine uu_istore_n dX12_plain_38 rfl (by decide) rfl ?_
  refine uu_aload_n dX12_plain_39 rfl (List.mem_of_getElem? (i := 1) rfl) ?_
  refine uu_aload_n dX12_plain_40 rfl (List.mem_of_getElem? (i := 1) rfl) ?_
  refine uu_geti (ci := 12) (N := 153) fX12_1054 (by decide) so_1079.is (by decide) (by decide) dX12_plain_41 ?_
  refine uu_if_ne (tgt := 51) dX12_plain_44 (by decide) (fun c1 => ?_) (fun c1 => ?_)
  · replace h := uu_neg c1 h
    refine uu_iconst (v := 1) dX12_plain_51 (by decide) ?_
    refine uu_goto (tgt := 56) dX12_plain_52 (by decide) ?_
    refine uu_lv [1, 2, 0] (lv' := [(0, .ref (B + 1079)), (1, .int x1), (2, .int (bI bs0))]) rfl ?_
    exact xb_X12_plain_56 uk  h
  · replace h := uu_pos c1 h
    refine uu_iload_n dX12_plain_47 rfl (List.mem_of_getElem? (i := 0) rfl) ?_
    refine uu_ifb_eq (tgt := 55) dX12_plain_48 (by decide) (fun c2 => ?_) (fun c2 => ?_)
    · replace h := uu_neg c2 h
      refine uu_iconst (v := 0) dX12_plain_55 (by decide) ?_
      refine uu_lv [1, 2, 0] (lv' := [(0, .ref (B + 1079)), (1, .int x1), (2, .int (bI bs0))]) rfl ?_
      exact xb_X12_plain_56 uk  h
    · replace h := uu_pos c2 h
      refine uu_iconst (v := 1) dX12_plain_51 (by decide) ?_
      refine uu_goto (tgt := 56) dX12_plain_52 (by decide) ?_
      refine uu_lv [1, 2, 0] (lv' := [(0, .ref (B + 1079)), (1, .int x1), (2, .int (bI bs0))]) rfl ?_
      exact xb_X12_plain_56 uk  h
def fn_X12_plain (x1 : Int32) (s : uS) : Option uS := if (s.I 1079 116) = 0 then ((fn_X12_cmdByte x1 s).bind fun s5 => some s5) else (if x1 = 46 then (if (s.I 1079 125) = 0 then (if (s.I 1079 124) = 0 then (fb_X12_plain_38 x1 true s) else (fb_X12_plain_38 x1 false s)) else (fb_X12_plain_38 x1 false s)) else (fb_X12_plain_38 x1 false s))
set_option maxRecDepth 100000 in
set_option maxHeartbeats 4000000 in
theorem xc_X12_plain {l : Launch} {D : va_G} {A : Nat → ClassId} {B : Nat} {Z : State → Heap → Prop} {vF : Value} (uk : uK B Z vF) {x1 : Int32} {s : uS} {r : uS}  (h : fn_X12_plain x1 s = some r) : CU l D A B Z 1 mX12_plain s [.ref (B + 1079), .int x1] (r, none) := by
  unfold fn_X12_plain at h
  refine cu_of rfl uk.1.1 (Nat.le_of_ble_eq_true rfl) ?_
  show GU _ _ _ _ _ _ _ _ _ 0 [(0, .ref (B + 1079)), (1, .int x1)] []
  refine uu_aload_n dX12_plain_0 rfl (List.mem_of_getElem? (i := 0) rfl) ?_
  refine uu_geti (ci := 12) (N := 153) fX12_1018 (by decide) so_1079.is (by decide) (by decide) dX12_plain_1 ?_
  refine uu_if_ne (tgt := 13) dX12_plain_4 (by decide) (fun c1 => ?_) (fun c1 => ?_)
  · replace h := uu_neg c1 h
    refine uu_iload_n dX12_plain_13 rfl (List.mem_of_getElem? (i := 1) rfl) ?_
    refine uu_bipush (v := 46) dX12_plain_14 (by decide) ?_
    refine uu_icmp_ne (tgt := 37) dX12_plain_16 (by decide) (fun c2 => ?_) (fun c2 => ?_)
    · replace h := uu_neg c2 h
      refine uu_iconst (v := 0) dX12_plain_37 (by decide) ?_
      exact xb_X12_plain_38 uk  h
    · replace h := uu_pos c2 h
      refine uu_aload_n dX12_plain_19 rfl (List.mem_of_getElem? (i := 0) rfl) ?_
      refine uu_geti (ci := 12) (N := 153) fX12_1051 (by decide) so_1079.is (by decide) (by decide) dX12_plain_20 ?_
      refine uu_if_ne (tgt := 37) dX12_plain_23 (by decide) (fun c3 => ?_) (fun c3 => ?_)
      · replace h := uu_neg c3 h
        refine uu_iconst (v := 0) dX12_plain_37 (by decide) ?_
        exact xb_X12_plain_38 uk  h
      · replace h := uu_pos c3 h
        refine uu_aload_n dX12_plain_26 rfl (List.mem_of_getElem? (i := 0) rfl) ?_
        refine uu_geti (ci := 12) (N := 153) fX12_1054 (by decide) so_1079.is (by decide) (by decide) dX12_plain_27 ?_
        refine uu_if_ne (tgt := 37) dX12_plain_30 (by decide) (fun c4 => ?_) (fun c4 => ?_)
        · replace h := uu_neg c4 h
          refine uu_iconst (v := 0) dX12_plain_37 (by decide) ?_
          exact xb_X12_plain_38 uk  h
        · replace h := uu_pos c4 h
          refine uu_iconst (v := 1) dX12_plain_33 (by decide) ?_
          refine uu_goto (tgt := 38) dX12_plain_34 (by decide) ?_
          exact xb_X12_plain_38 uk  h
  · replace h := uu_pos c1 h
    refine uu_aload_n dX12_plain_7 rfl (List.mem_of_getElem? (i := 0) rfl) ?_
    refine uu_iload_n dX12_plain_8 rfl (List.mem_of_getElem? (i := 1) rfl) ?_
    obtain ⟨s5, e6, h⟩ := uu_ob h
    refine uu_cv (d1 := 0) (k := 1079) (ci := 12) (T := TX12) (N := 153) (As := [.int x1]) (st := []) (st' := []) (xc_X12_cmdByte uk  e6) so_1079.is (by decide) rfl kX12_cmdByte lX12_1048 sX12_cmdByte (by decide) (Nat.le_of_ble_eq_true rfl) dX12_plain_9 rfl ?_
    have hr := Option.some.inj h
    subst hr
    exact uu_vret rfl dX12_plain_12
abbrev mX12_saveScript : hM := (yX12_saveScript, cX12_saveScript, 5, none)
theorem dX12_saveScript_12 : decode cX12_saveScript 12 = .ok (.iload_n 2, 1) := by decide +kernel
theorem dX12_saveScript_13 : decode cX12_saveScript 13 = .ok (.aload_n 0, 1) := by decide +kernel
theorem dX12_saveScript_14 : decode cX12_saveScript 14 = .ok (.getfield 184, 3) := by decide +kernel
theorem dX12_saveScript_17 : decode cX12_saveScript 17 = .ok (.if_icmp .ge 70, 3) := by decide +kernel
theorem dX12_saveScript_87 : decode cX12_saveScript 87 = .ok (.return_, 1) := by decide +kernel
theorem dX12_saveScript_20 : decode cX12_saveScript 20 = .ok (.sipush 250, 3) := by decide +kernel
theorem dX12_saveScript_23 : decode cX12_saveScript 23 = .ok (.iload_n 1, 1) := by decide +kernel
theorem dX12_saveScript_24 : decode cX12_saveScript 24 = .ok (.imul, 1) := by decide +kernel
theorem dX12_saveScript_25 : decode cX12_saveScript 25 = .ok (.iload_n 2, 1) := by decide +kernel
theorem dX12_saveScript_26 : decode cX12_saveScript 26 = .ok (.bipush 8, 2) := by decide +kernel
theorem dX12_saveScript_28 : decode cX12_saveScript 28 = .ok (.idiv, 1) := by decide +kernel
theorem dX12_saveScript_29 : decode cX12_saveScript 29 = .ok (.iadd, 1) := by decide +kernel
theorem dX12_saveScript_30 : decode cX12_saveScript 30 = .ok (.istore_n 3, 1) := by decide +kernel
theorem dX12_saveScript_31 : decode cX12_saveScript 31 = .ok (.bipush 56, 2) := by decide +kernel
theorem dX12_saveScript_33 : decode cX12_saveScript 33 = .ok (.bipush 8, 2) := by decide +kernel
theorem dX12_saveScript_35 : decode cX12_saveScript 35 = .ok (.iload_n 2, 1) := by decide +kernel
theorem dX12_saveScript_36 : decode cX12_saveScript 36 = .ok (.bipush 8, 2) := by decide +kernel
theorem dX12_saveScript_38 : decode cX12_saveScript 38 = .ok (.irem, 1) := by decide +kernel
theorem dX12_saveScript_39 : decode cX12_saveScript 39 = .ok (.imul, 1) := by decide +kernel
theorem dX12_saveScript_40 : decode cX12_saveScript 40 = .ok (.isub, 1) := by decide +kernel
theorem dX12_saveScript_41 : decode cX12_saveScript 41 = .ok (.istore 4, 2) := by decide +kernel
theorem dX12_saveScript_43 : decode cX12_saveScript 43 = .ok (.aload_n 0, 1) := by decide +kernel
theorem dX12_saveScript_44 : decode cX12_saveScript 44 = .ok (.getfield 1177, 3) := by decide +kernel
theorem dX12_saveScript_47 : decode cX12_saveScript 47 = .ok (.iload_n 3, 1) := by decide +kernel
theorem dX12_saveScript_48 : decode cX12_saveScript 48 = .ok (.aload_n 0, 1) := by decide +kernel
theorem dX12_saveScript_49 : decode cX12_saveScript 49 = .ok (.getfield 1177, 3) := by decide +kernel
theorem dX12_saveScript_52 : decode cX12_saveScript 52 = .ok (.iload_n 3, 1) := by decide +kernel
theorem dX12_saveScript_53 : decode cX12_saveScript 53 = .ok (.laload, 1) := by decide +kernel
theorem dX12_saveScript_54 : decode cX12_saveScript 54 = .ok (.ldc2_w 559, 3) := by decide +kernel
theorem dX12_saveScript_57 : decode cX12_saveScript 57 = .ok (.iload 4, 2) := by decide +kernel
theorem dX12_saveScript_59 : decode cX12_saveScript 59 = .ok (.lshl, 1) := by decide +kernel
theorem dX12_saveScript_60 : decode cX12_saveScript 60 = .ok (.ldc2_w 561, 3) := by decide +kernel
theorem dX12_saveScript_63 : decode cX12_saveScript 63 = .ok (.lxor, 1) := by decide +kernel
theorem dX12_saveScript_64 : decode cX12_saveScript 64 = .ok (.land, 1) := by decide +kernel
theorem dX12_saveScript_65 : decode cX12_saveScript 65 = .ok (.aload_n 0, 1) := by decide +kernel
theorem dX12_saveScript_66 : decode cX12_saveScript 66 = .ok (.getfield 187, 3) := by decide +kernel
theorem dX12_saveScript_69 : decode cX12_saveScript 69 = .ok (.iload_n 2, 1) := by decide +kernel
theorem dX12_saveScript_70 : decode cX12_saveScript 70 = .ok (.iaload, 1) := by decide +kernel
theorem dX12_saveScript_71 : decode cX12_saveScript 71 = .ok (.sipush 255, 3) := by decide +kernel
theorem dX12_saveScript_74 : decode cX12_saveScript 74 = .ok (.iand, 1) := by decide +kernel
theorem dX12_saveScript_75 : decode cX12_saveScript 75 = .ok (.i2l, 1) := by decide +kernel
theorem dX12_saveScript_76 : decode cX12_saveScript 76 = .ok (.iload 4, 2) := by decide +kernel
theorem dX12_saveScript_78 : decode cX12_saveScript 78 = .ok (.lshl, 1) := by decide +kernel
theorem dX12_saveScript_79 : decode cX12_saveScript 79 = .ok (.lor, 1) := by decide +kernel
theorem dX12_saveScript_80 : decode cX12_saveScript 80 = .ok (.lastore, 1) := by decide +kernel
theorem dX12_saveScript_81 : decode cX12_saveScript 81 = .ok (.iinc 2 1, 3) := by decide +kernel
theorem dX12_saveScript_84 : decode cX12_saveScript 84 = .ok (.goto (-72), 3) := by decide +kernel
theorem dX12_saveScript_0 : decode cX12_saveScript 0 = .ok (.aload_n 0, 1) := by decide +kernel
theorem dX12_saveScript_1 : decode cX12_saveScript 1 = .ok (.getfield 1174, 3) := by decide +kernel
theorem dX12_saveScript_4 : decode cX12_saveScript 4 = .ok (.iload_n 1, 1) := by decide +kernel
theorem dX12_saveScript_5 : decode cX12_saveScript 5 = .ok (.aload_n 0, 1) := by decide +kernel
theorem dX12_saveScript_6 : decode cX12_saveScript 6 = .ok (.getfield 184, 3) := by decide +kernel
theorem dX12_saveScript_9 : decode cX12_saveScript 9 = .ok (.iastore, 1) := by decide +kernel
theorem dX12_saveScript_10 : decode cX12_saveScript 10 = .ok (.iconst 0, 1) := by decide +kernel
theorem dX12_saveScript_11 : decode cX12_saveScript 11 = .ok (.istore_n 2, 1) := by decide +kernel
def fb_X12_saveScript_12 (K12 : Int32 → Int32 → uS → Option uS) (x1 : Int32) (x2 : Int32) (s : uS) : Option uS := if (s.I 1079 29) ≤ x2 then (some s) else ((lget s 1154 (((250 : Int32) * x1) + (x2 / 8))).bind fun v2 => (iget 20 s 1096 x2).bind fun v4 => (lput s 1154 (((250 : Int32) * x1) + (x2 / 8)) ((v2 &&& (((255 : Int64) <<< (((56 : Int32) - ((8 : Int32) * (x2 - x2 / 8 * 8))).toInt64 &&& 63)) ^^^ (-1))) ||| (((v4 &&& 255).toInt64) <<< (((56 : Int32) - ((8 : Int32) * (x2 - x2 / 8 * 8))).toInt64 &&& 63)))).bind fun s6 => K12 x1 (x2 + 1) s6)
set_option maxRecDepth 100000 in
set_option maxHeartbeats 4000000 in
theorem xb_X12_saveScript_12 {l : Launch} {D : va_G} {A : Nat → ClassId} {B : Nat} {Z : State → Heap → Prop} {vF : Value} (uk : uK B Z vF) {K12 : Int32 → Int32 → uS → Option uS} (hK12 : ∀ (x1 : Int32) (x2 : Int32)  (s : uS) (r : uS), K12 x1 x2 s = some r → GU l D A B Z mX12_saveScript 0 (r, none) s 12 [(0, .ref (B + 1079)), (1, .int x1), (2, .int x2)] []) {x1 : Int32} {x2 : Int32} {s : uS} {r : uS}  (h : fb_X12_saveScript_12 K12 x1 x2 s = some r) : GU l D A B Z mX12_saveScript 0 (r, none) s 12 [(0, .ref (B + 1079)), (1, .int x1), (2, .int x2)] [] := by
  unfold fb_X12_saveScript_12 at h
  refine uu_iload_n dX12_saveScript_12 rfl (List.mem_of_getElem? (i := 2) rfl) ?_
  refine uu_aload_n dX12_saveScript_13 rfl (List.mem_of_getElem? (i := 0) rfl) ?_
  refine uu_geti (ci := 12) (N := 153) fX12_184 (by decide) so_1079.is (by decide) (by decide) dX12_saveScript_14 ?_
  refine uu_icmp_ge (tgt := 87) dX12_saveScript_17 (by decide) (fun c1 => ?_) (fun c1 => ?_)
  · replace h := uu_pos c1 h
    have hr := Option.some.inj h
    subst hr
    exact uu_vret rfl dX12_saveScript_87
  · replace h := uu_neg c1 h
    refine uu_sipush (v := 250) dX12_saveScript_20 (by decide) ?_
    refine uu_iload_n dX12_saveScript_23 rfl (List.mem_of_getElem? (i := 1) rfl) ?_
    refine uu_imul dX12_saveScript_24 ?_
    refine uu_iload_n dX12_saveScript_25 rfl (List.mem_of_getElem? (i := 2) rfl) ?_
    refine uu_bipush (v := 8) dX12_saveScript_26 (by decide) ?_
    refine uu_idiv dX12_saveScript_28 (by decide) ?_
    refine uu_iadd dX12_saveScript_29 ?_
    refine uu_istore_n dX12_saveScript_30 rfl (by decide) rfl ?_
    refine uu_bipush (v := 56) dX12_saveScript_31 (by decide) ?_
    refine uu_bipush (v := 8) dX12_saveScript_33 (by decide) ?_
    refine uu_iload_n dX12_saveScript_35 rfl (List.mem_of_getElem? (i := 3) rfl) ?_
    refine uu_bipush (v := 8) dX12_saveScript_36 (by decide) ?_
    refine uu_irem dX12_saveScript_38 (by decide) ?_
    refine uu_imul dX12_saveScript_39 ?_
    refine uu_isub dX12_saveScript_40 ?_
    refine uu_istore dX12_saveScript_41 (by decide) rfl ?_
    refine uu_aload_n dX12_saveScript_43 rfl (List.mem_of_getElem? (i := 2) rfl) ?_
    refine uu_geta (ci := 12) (N := 153) fX12_1177 (by decide) so_1079.is (by decide) (c := 1154) (by decide) dX12_saveScript_44 ?_
    refine uu_iload_n dX12_saveScript_47 rfl (List.mem_of_getElem? (i := 1) rfl) ?_
    refine uu_aload_n dX12_saveScript_48 rfl (List.mem_of_getElem? (i := 2) rfl) ?_
    refine uu_geta (ci := 12) (N := 153) fX12_1177 (by decide) so_1079.is (by decide) (c := 1154) (by decide) dX12_saveScript_49 ?_
    refine uu_iload_n dX12_saveScript_52 rfl (List.mem_of_getElem? (i := 1) rfl) ?_
    obtain ⟨v2, e3, h⟩ := uu_ob h
    refine uu_lald e3 dX12_saveScript_53 ?_
    refine uu_ldc2 (v := 255) cX12_559 dX12_saveScript_54 ?_
    refine uu_iload dX12_saveScript_57 (List.mem_of_getElem? (i := 0) rfl) ?_
    refine uu_lshl dX12_saveScript_59 rfl ?_
    refine uu_ldc2 (v := -1) cX12_561 dX12_saveScript_60 ?_
    refine uu_lxor dX12_saveScript_63 ?_
    refine uu_land dX12_saveScript_64 ?_
    refine uu_aload_n dX12_saveScript_65 rfl (List.mem_of_getElem? (i := 2) rfl) ?_
    refine uu_geta (ci := 12) (N := 153) fX12_187 (by decide) so_1079.is (by decide) (c := 1096) (by decide) dX12_saveScript_66 ?_
    refine uu_iload_n dX12_saveScript_69 rfl (List.mem_of_getElem? (i := 4) rfl) ?_
    obtain ⟨v4, e5, h⟩ := uu_ob h
    refine uu_iald e5 dX12_saveScript_70 ?_
    refine uu_sipush (v := 255) dX12_saveScript_71 (by decide) ?_
    refine uu_iand dX12_saveScript_74 ?_
    refine uu_i2l dX12_saveScript_75 rfl ?_
    refine uu_iload dX12_saveScript_76 (List.mem_of_getElem? (i := 0) rfl) ?_
    refine uu_lshl dX12_saveScript_78 rfl ?_
    refine uu_lor dX12_saveScript_79 ?_
    obtain ⟨s6, e7, h⟩ := uu_ob h
    refine uu_last e7 dX12_saveScript_80 ?_
    refine uu_iinc (v := x2 + 1) dX12_saveScript_81 (k := 4) rfl rfl (by decide) rfl ?_
    refine uu_goto (tgt := 12) dX12_saveScript_84 (by decide) ?_
    refine uu_lv [3, 4, 0] (lv' := [(0, .ref (B + 1079)), (1, .int x1), (2, .int (x2 + 1))]) rfl ?_
    exact hK12 x1 (x2 + 1) _ _ h
def fn_X12_saveScript_12  : Nat → Int32 → Int32 → uS → Option uS
  | 0 => fun _ _ _ => none
  | n + 1 => fb_X12_saveScript_12 (fn_X12_saveScript_12  n)
set_option maxRecDepth 100000 in
set_option maxHeartbeats 4000000 in
theorem xn_X12_saveScript_12 {l : Launch} {D : va_G} {A : Nat → ClassId} {B : Nat} {Z : State → Heap → Prop} {vF : Value} (uk : uK B Z vF)   : ∀ (n : Nat) (x1 : Int32) (x2 : Int32)  (s : uS) (r : uS), fn_X12_saveScript_12  n x1 x2 s = some r → GU l D A B Z mX12_saveScript 0 (r, none) s 12 [(0, .ref (B + 1079)), (1, .int x1), (2, .int x2)] [] := by
  intro n
  induction n with
  | zero => intro x1 x2 s r h
            cases h
  | succ n ih => intro x1 x2 s r h
                 exact xb_X12_saveScript_12 uk ih  h
def fn_X12_saveScript (x1 : Int32) (s : uS) : Option uS := (iput 20 s 1155 x1 (s.I 1079 29)).bind fun s1 => fn_X12_saveScript_12 uFu x1 0 s1
set_option maxRecDepth 100000 in
set_option maxHeartbeats 4000000 in
theorem xc_X12_saveScript {l : Launch} {D : va_G} {A : Nat → ClassId} {B : Nat} {Z : State → Heap → Prop} {vF : Value} (uk : uK B Z vF) {x1 : Int32} {s : uS} {r : uS}  (h : fn_X12_saveScript x1 s = some r) : CU l D A B Z 0 mX12_saveScript s [.ref (B + 1079), .int x1] (r, none) := by
  unfold fn_X12_saveScript at h
  refine cu_of rfl uk.1.1 (Nat.le_of_ble_eq_true rfl) ?_
  show GU _ _ _ _ _ _ _ _ _ 0 [(0, .ref (B + 1079)), (1, .int x1)] []
  refine uu_aload_n dX12_saveScript_0 rfl (List.mem_of_getElem? (i := 0) rfl) ?_
  refine uu_geta (ci := 12) (N := 153) fX12_1174 (by decide) so_1079.is (by decide) (c := 1155) (by decide) dX12_saveScript_1 ?_
  refine uu_iload_n dX12_saveScript_4 rfl (List.mem_of_getElem? (i := 1) rfl) ?_
  refine uu_aload_n dX12_saveScript_5 rfl (List.mem_of_getElem? (i := 0) rfl) ?_
  refine uu_geti (ci := 12) (N := 153) fX12_184 (by decide) so_1079.is (by decide) (by decide) dX12_saveScript_6 ?_
  obtain ⟨s1, e2, h⟩ := uu_ob h
  refine uu_iast e2 dX12_saveScript_9 ?_
  refine uu_iconst (v := 0) dX12_saveScript_10 (by decide) ?_
  refine uu_istore_n dX12_saveScript_11 rfl (by decide) rfl ?_
  refine uu_lv [1, 2, 0] (lv' := [(0, .ref (B + 1079)), (1, .int x1), (2, .int 0)]) rfl ?_
  exact xn_X12_saveScript_12 uk  _ _ _ _ _ h
abbrev mX12_partText : hM := (yX12_partText, cX12_partText, 5, (some (.int)))
theorem dX12_partText_0 : decode cX12_partText 0 = .ok (.sipush 2000, 3) := by decide +kernel
theorem dX12_partText_3 : decode cX12_partText 3 = .ok (.iload_n 2, 1) := by decide +kernel
theorem dX12_partText_4 : decode cX12_partText 4 = .ok (.imul, 1) := by decide +kernel
theorem dX12_partText_5 : decode cX12_partText 5 = .ok (.iload_n 3, 1) := by decide +kernel
theorem dX12_partText_6 : decode cX12_partText 6 = .ok (.iadd, 1) := by decide +kernel
theorem dX12_partText_7 : decode cX12_partText 7 = .ok (.istore 4, 2) := by decide +kernel
theorem dX12_partText_9 : decode cX12_partText 9 = .ok (.iload_n 1, 1) := by decide +kernel
theorem dX12_partText_10 : decode cX12_partText 10 = .ok (.ifCond .ne 13, 3) := by decide +kernel
theorem dX12_partText_23 : decode cX12_partText 23 = .ok (.iload_n 1, 1) := by decide +kernel
theorem dX12_partText_24 : decode cX12_partText 24 = .ok (.iconst 1, 1) := by decide +kernel
theorem dX12_partText_25 : decode cX12_partText 25 = .ok (.if_icmp .ne 13, 3) := by decide +kernel
theorem dX12_partText_38 : decode cX12_partText 38 = .ok (.iload_n 1, 1) := by decide +kernel
theorem dX12_partText_39 : decode cX12_partText 39 = .ok (.iconst 2, 1) := by decide +kernel
theorem dX12_partText_40 : decode cX12_partText 40 = .ok (.if_icmp .ne 13, 3) := by decide +kernel
theorem dX12_partText_53 : decode cX12_partText 53 = .ok (.aload_n 0, 1) := by decide +kernel
theorem dX12_partText_54 : decode cX12_partText 54 = .ok (.getfield 1207, 3) := by decide +kernel
theorem dX12_partText_57 : decode cX12_partText 57 = .ok (.iload 4, 2) := by decide +kernel
theorem dX12_partText_59 : decode cX12_partText 59 = .ok (.iaload, 1) := by decide +kernel
theorem dX12_partText_60 : decode cX12_partText 60 = .ok (.ireturn, 1) := by decide +kernel
theorem dX12_partText_43 : decode cX12_partText 43 = .ok (.aload_n 0, 1) := by decide +kernel
theorem dX12_partText_44 : decode cX12_partText 44 = .ok (.getfield 1204, 3) := by decide +kernel
theorem dX12_partText_47 : decode cX12_partText 47 = .ok (.iload 4, 2) := by decide +kernel
theorem dX12_partText_49 : decode cX12_partText 49 = .ok (.iaload, 1) := by decide +kernel
theorem dX12_partText_50 : decode cX12_partText 50 = .ok (.goto 10, 3) := by decide +kernel
theorem dX12_partText_28 : decode cX12_partText 28 = .ok (.aload_n 0, 1) := by decide +kernel
theorem dX12_partText_29 : decode cX12_partText 29 = .ok (.getfield 1201, 3) := by decide +kernel
theorem dX12_partText_32 : decode cX12_partText 32 = .ok (.iload 4, 2) := by decide +kernel
theorem dX12_partText_34 : decode cX12_partText 34 = .ok (.iaload, 1) := by decide +kernel
theorem dX12_partText_35 : decode cX12_partText 35 = .ok (.goto 25, 3) := by decide +kernel
theorem dX12_partText_13 : decode cX12_partText 13 = .ok (.aload_n 0, 1) := by decide +kernel
theorem dX12_partText_14 : decode cX12_partText 14 = .ok (.getfield 1198, 3) := by decide +kernel
theorem dX12_partText_17 : decode cX12_partText 17 = .ok (.iload 4, 2) := by decide +kernel
theorem dX12_partText_19 : decode cX12_partText 19 = .ok (.iaload, 1) := by decide +kernel
theorem dX12_partText_20 : decode cX12_partText 20 = .ok (.goto 40, 3) := by decide +kernel
def fn_X12_partText (x1 : Int32) (x2 : Int32) (x3 : Int32) (s : uS) : Option Int32 := if x1 = 0 then ((iget 20 s 1167 (((2000 : Int32) * x2) + x3)).bind fun v10 => some v10) else (if x1 = 1 then ((iget 20 s 1168 (((2000 : Int32) * x2) + x3)).bind fun v8 => some v8) else (if x1 = 2 then ((iget 20 s 1169 (((2000 : Int32) * x2) + x3)).bind fun v6 => some v6) else ((iget 20 s 1170 (((2000 : Int32) * x2) + x3)).bind fun v4 => some v4)))
set_option maxRecDepth 100000 in
set_option maxHeartbeats 4000000 in
theorem xc_X12_partText {l : Launch} {D : va_G} {A : Nat → ClassId} {B : Nat} {Z : State → Heap → Prop} {vF : Value} (uk : uK B Z vF) {x1 : Int32} {x2 : Int32} {x3 : Int32} {s : uS} {r : Int32}  (h : fn_X12_partText x1 x2 x3 s = some r) : CU l D A B Z 0 mX12_partText s [.ref (B + 1079), .int x1, .int x2, .int x3] (s, some (.int r)) := by
  unfold fn_X12_partText at h
  refine cu_of rfl uk.1.1 (Nat.le_of_ble_eq_true rfl) ?_
  show GU _ _ _ _ _ _ _ _ _ 0 [(0, .ref (B + 1079)), (1, .int x1), (2, .int x2), (3, .int x3)] []
  refine uu_sipush (v := 2000) dX12_partText_0 (by decide) ?_
  refine uu_iload_n dX12_partText_3 rfl (List.mem_of_getElem? (i := 2) rfl) ?_
  refine uu_imul dX12_partText_4 ?_
  refine uu_iload_n dX12_partText_5 rfl (List.mem_of_getElem? (i := 3) rfl) ?_
  refine uu_iadd dX12_partText_6 ?_
  refine uu_istore dX12_partText_7 (by decide) rfl ?_
  refine uu_iload_n dX12_partText_9 rfl (List.mem_of_getElem? (i := 2) rfl) ?_
  refine uu_if_ne (tgt := 23) dX12_partText_10 (by decide) (fun c1 => ?_) (fun c1 => ?_)
  · replace h := uu_neg c1 h
    refine uu_iload_n dX12_partText_23 rfl (List.mem_of_getElem? (i := 2) rfl) ?_
    refine uu_iconst (v := 1) dX12_partText_24 (by decide) ?_
    refine uu_icmp_ne (tgt := 38) dX12_partText_25 (by decide) (fun c2 => ?_) (fun c2 => ?_)
    · replace h := uu_neg c2 h
      refine uu_iload_n dX12_partText_38 rfl (List.mem_of_getElem? (i := 2) rfl) ?_
      refine uu_iconst (v := 2) dX12_partText_39 (by decide) ?_
      refine uu_icmp_ne (tgt := 53) dX12_partText_40 (by decide) (fun c3 => ?_) (fun c3 => ?_)
      · replace h := uu_neg c3 h
        refine uu_aload_n dX12_partText_53 rfl (List.mem_of_getElem? (i := 1) rfl) ?_
        refine uu_geta (ci := 12) (N := 153) fX12_1207 (by decide) so_1079.is (by decide) (c := 1170) (by decide) dX12_partText_54 ?_
        refine uu_iload dX12_partText_57 (List.mem_of_getElem? (i := 0) rfl) ?_
        obtain ⟨v4, e5, h⟩ := uu_ob h
        refine uu_iald e5 dX12_partText_59 ?_
        have hr := Option.some.inj h
        subst hr
        exact uu_iret rfl dX12_partText_60
      · replace h := uu_pos c3 h
        refine uu_aload_n dX12_partText_43 rfl (List.mem_of_getElem? (i := 1) rfl) ?_
        refine uu_geta (ci := 12) (N := 153) fX12_1204 (by decide) so_1079.is (by decide) (c := 1169) (by decide) dX12_partText_44 ?_
        refine uu_iload dX12_partText_47 (List.mem_of_getElem? (i := 0) rfl) ?_
        obtain ⟨v6, e7, h⟩ := uu_ob h
        refine uu_iald e7 dX12_partText_49 ?_
        refine uu_goto (tgt := 60) dX12_partText_50 (by decide) ?_
        have hr := Option.some.inj h
        subst hr
        exact uu_iret rfl dX12_partText_60
    · replace h := uu_pos c2 h
      refine uu_aload_n dX12_partText_28 rfl (List.mem_of_getElem? (i := 1) rfl) ?_
      refine uu_geta (ci := 12) (N := 153) fX12_1201 (by decide) so_1079.is (by decide) (c := 1168) (by decide) dX12_partText_29 ?_
      refine uu_iload dX12_partText_32 (List.mem_of_getElem? (i := 0) rfl) ?_
      obtain ⟨v8, e9, h⟩ := uu_ob h
      refine uu_iald e9 dX12_partText_34 ?_
      refine uu_goto (tgt := 60) dX12_partText_35 (by decide) ?_
      have hr := Option.some.inj h
      subst hr
      exact uu_iret rfl dX12_partText_60
  · replace h := uu_pos c1 h
    refine uu_aload_n dX12_partText_13 rfl (List.mem_of_getElem? (i := 1) rfl) ?_
    refine uu_geta (ci := 12) (N := 153) fX12_1198 (by decide) so_1079.is (by decide) (c := 1167) (by decide) dX12_partText_14 ?_
    refine uu_iload dX12_partText_17 (List.mem_of_getElem? (i := 0) rfl) ?_
    obtain ⟨v10, e11, h⟩ := uu_ob h
    refine uu_iald e11 dX12_partText_19 ?_
    refine uu_goto (tgt := 60) dX12_partText_20 (by decide) ?_
    have hr := Option.some.inj h
    subst hr
    exact uu_iret rfl dX12_partText_60
abbrev mX12_scriptOf : hM := (yX12_scriptOf, cX12_scriptOf, 7, (some (.int)))
theorem dX12_scriptOf_108 : decode cX12_scriptOf 108 = .ok (.iload 5, 2) := by decide +kernel
theorem dX12_scriptOf_110 : decode cX12_scriptOf 110 = .ok (.ifCond .eq 5, 3) := by decide +kernel
theorem dX12_scriptOf_115 : decode cX12_scriptOf 115 = .ok (.iinc 3 1, 3) := by decide +kernel
theorem dX12_scriptOf_118 : decode cX12_scriptOf 118 = .ok (.goto (-116), 3) := by decide +kernel
theorem dX12_scriptOf_113 : decode cX12_scriptOf 113 = .ok (.iload_n 3, 1) := by decide +kernel
theorem dX12_scriptOf_114 : decode cX12_scriptOf 114 = .ok (.ireturn, 1) := by decide +kernel
theorem dX12_scriptOf_54 : decode cX12_scriptOf 54 = .ok (.iload 6, 2) := by decide +kernel
theorem dX12_scriptOf_56 : decode cX12_scriptOf 56 = .ok (.aload_n 0, 1) := by decide +kernel
theorem dX12_scriptOf_57 : decode cX12_scriptOf 57 = .ok (.getfield 1186, 3) := by decide +kernel
theorem dX12_scriptOf_60 : decode cX12_scriptOf 60 = .ok (.iload 4, 2) := by decide +kernel
theorem dX12_scriptOf_62 : decode cX12_scriptOf 62 = .ok (.iaload, 1) := by decide +kernel
theorem dX12_scriptOf_63 : decode cX12_scriptOf 63 = .ok (.if_icmp .ge 45, 3) := by decide +kernel
theorem dX12_scriptOf_66 : decode cX12_scriptOf 66 = .ok (.iload 5, 2) := by decide +kernel
theorem dX12_scriptOf_68 : decode cX12_scriptOf 68 = .ok (.ifCond .eq 40, 3) := by decide +kernel
theorem dX12_scriptOf_71 : decode cX12_scriptOf 71 = .ok (.aload_n 0, 1) := by decide +kernel
theorem dX12_scriptOf_72 : decode cX12_scriptOf 72 = .ok (.getfield 1192, 3) := by decide +kernel
theorem dX12_scriptOf_75 : decode cX12_scriptOf 75 = .ok (.bipush 20, 2) := by decide +kernel
theorem dX12_scriptOf_77 : decode cX12_scriptOf 77 = .ok (.iload 4, 2) := by decide +kernel
theorem dX12_scriptOf_79 : decode cX12_scriptOf 79 = .ok (.imul, 1) := by decide +kernel
theorem dX12_scriptOf_80 : decode cX12_scriptOf 80 = .ok (.iload 6, 2) := by decide +kernel
theorem dX12_scriptOf_82 : decode cX12_scriptOf 82 = .ok (.iadd, 1) := by decide +kernel
theorem dX12_scriptOf_83 : decode cX12_scriptOf 83 = .ok (.iaload, 1) := by decide +kernel
theorem dX12_scriptOf_84 : decode cX12_scriptOf 84 = .ok (.aload_n 0, 1) := by decide +kernel
theorem dX12_scriptOf_85 : decode cX12_scriptOf 85 = .ok (.iload_n 1, 1) := by decide +kernel
theorem dX12_scriptOf_86 : decode cX12_scriptOf 86 = .ok (.iload_n 2, 1) := by decide +kernel
theorem dX12_scriptOf_87 : decode cX12_scriptOf 87 = .ok (.iload 6, 2) := by decide +kernel
theorem kX12_partText : h_ml mX12_partText 3 := ⟨h_t11 134 rfl rfl, h_t1 16 rfl rfl, ⟨by decide, by decide, by decide +kernel⟩, by decide⟩
theorem lX12_1195 : Cond.methodLink RX12 1195 mX12_partText.1 ∈ lw_g := h_t11 131 rfl rfl
theorem sX12_partText : Cond.instanceMethod mX12_partText.1 ∈ lw_g ∧ Cond.selects mX12_partText.1.cls mX12_partText.1 mX12_partText.1 ∈ lw_g := ⟨h_t11 133 rfl rfl, h_ins 272 rfl⟩
theorem dX12_scriptOf_89 : decode cX12_scriptOf 89 = .ok (.invokevirtual 1195, 3) := by decide +kernel
theorem dX12_scriptOf_92 : decode cX12_scriptOf 92 = .ok (.if_icmp .ne 7, 3) := by decide +kernel
theorem dX12_scriptOf_99 : decode cX12_scriptOf 99 = .ok (.iconst 0, 1) := by decide +kernel
theorem dX12_scriptOf_100 : decode cX12_scriptOf 100 = .ok (.istore 5, 2) := by decide +kernel
theorem dX12_scriptOf_102 : decode cX12_scriptOf 102 = .ok (.iinc 6 1, 3) := by decide +kernel
theorem dX12_scriptOf_105 : decode cX12_scriptOf 105 = .ok (.goto (-51), 3) := by decide +kernel
theorem dX12_scriptOf_95 : decode cX12_scriptOf 95 = .ok (.iconst 1, 1) := by decide +kernel
theorem dX12_scriptOf_96 : decode cX12_scriptOf 96 = .ok (.goto 4, 3) := by decide +kernel
theorem dX12_scriptOf_2 : decode cX12_scriptOf 2 = .ok (.iload_n 3, 1) := by decide +kernel
theorem dX12_scriptOf_3 : decode cX12_scriptOf 3 = .ok (.aload_n 0, 1) := by decide +kernel
theorem dX12_scriptOf_4 : decode cX12_scriptOf 4 = .ok (.getfield 1180, 3) := by decide +kernel
theorem dX12_scriptOf_7 : decode cX12_scriptOf 7 = .ok (.iload_n 1, 1) := by decide +kernel
theorem dX12_scriptOf_8 : decode cX12_scriptOf 8 = .ok (.iaload, 1) := by decide +kernel
theorem dX12_scriptOf_9 : decode cX12_scriptOf 9 = .ok (.if_icmp .ge 112, 3) := by decide +kernel
theorem dX12_scriptOf_121 : decode cX12_scriptOf 121 = .ok (.iconst (-1), 1) := by decide +kernel
theorem dX12_scriptOf_122 : decode cX12_scriptOf 122 = .ok (.ireturn, 1) := by decide +kernel
theorem dX12_scriptOf_12 : decode cX12_scriptOf 12 = .ok (.aload_n 0, 1) := by decide +kernel
theorem dX12_scriptOf_13 : decode cX12_scriptOf 13 = .ok (.getfield 1183, 3) := by decide +kernel
theorem dX12_scriptOf_16 : decode cX12_scriptOf 16 = .ok (.iconst 4, 1) := by decide +kernel
theorem dX12_scriptOf_17 : decode cX12_scriptOf 17 = .ok (.iload_n 1, 1) := by decide +kernel
theorem dX12_scriptOf_18 : decode cX12_scriptOf 18 = .ok (.imul, 1) := by decide +kernel
theorem dX12_scriptOf_19 : decode cX12_scriptOf 19 = .ok (.iload_n 3, 1) := by decide +kernel
theorem dX12_scriptOf_20 : decode cX12_scriptOf 20 = .ok (.iadd, 1) := by decide +kernel
theorem dX12_scriptOf_21 : decode cX12_scriptOf 21 = .ok (.iaload, 1) := by decide +kernel
theorem dX12_scriptOf_22 : decode cX12_scriptOf 22 = .ok (.istore 4, 2) := by decide +kernel
theorem dX12_scriptOf_24 : decode cX12_scriptOf 24 = .ok (.aload_n 0, 1) := by decide +kernel
theorem dX12_scriptOf_25 : decode cX12_scriptOf 25 = .ok (.getfield 1186, 3) := by decide +kernel
theorem dX12_scriptOf_28 : decode cX12_scriptOf 28 = .ok (.iload 4, 2) := by decide +kernel
theorem dX12_scriptOf_30 : decode cX12_scriptOf 30 = .ok (.iaload, 1) := by decide +kernel
theorem dX12_scriptOf_31 : decode cX12_scriptOf 31 = .ok (.aload_n 0, 1) := by decide +kernel
theorem dX12_scriptOf_32 : decode cX12_scriptOf 32 = .ok (.getfield 1189, 3) := by decide +kernel
theorem dX12_scriptOf_35 : decode cX12_scriptOf 35 = .ok (.iconst 2, 1) := by decide +kernel
theorem dX12_scriptOf_36 : decode cX12_scriptOf 36 = .ok (.iload_n 1, 1) := by decide +kernel
theorem dX12_scriptOf_37 : decode cX12_scriptOf 37 = .ok (.imul, 1) := by decide +kernel
theorem dX12_scriptOf_38 : decode cX12_scriptOf 38 = .ok (.iload_n 2, 1) := by decide +kernel
theorem dX12_scriptOf_39 : decode cX12_scriptOf 39 = .ok (.iadd, 1) := by decide +kernel
theorem dX12_scriptOf_40 : decode cX12_scriptOf 40 = .ok (.iaload, 1) := by decide +kernel
theorem dX12_scriptOf_41 : decode cX12_scriptOf 41 = .ok (.if_icmp .ne 7, 3) := by decide +kernel
theorem dX12_scriptOf_48 : decode cX12_scriptOf 48 = .ok (.iconst 0, 1) := by decide +kernel
theorem dX12_scriptOf_49 : decode cX12_scriptOf 49 = .ok (.istore 5, 2) := by decide +kernel
theorem dX12_scriptOf_51 : decode cX12_scriptOf 51 = .ok (.iconst 0, 1) := by decide +kernel
theorem dX12_scriptOf_52 : decode cX12_scriptOf 52 = .ok (.istore 6, 2) := by decide +kernel
theorem dX12_scriptOf_44 : decode cX12_scriptOf 44 = .ok (.iconst 1, 1) := by decide +kernel
theorem dX12_scriptOf_45 : decode cX12_scriptOf 45 = .ok (.goto 4, 3) := by decide +kernel
theorem dX12_scriptOf_0 : decode cX12_scriptOf 0 = .ok (.iconst 0, 1) := by decide +kernel
theorem dX12_scriptOf_1 : decode cX12_scriptOf 1 = .ok (.istore_n 3, 1) := by decide +kernel
def fb_X12_scriptOf_108 (K2 : Int32 → Int32 → Int32 → uS → Option Int32) (x1 : Int32) (x2 : Int32) (x3 : Int32) (b5 : Bool) (s : uS) : Option Int32 := if b5 = true then (some x3) else (K2 x1 x2 (x3 + 1) s)
set_option maxRecDepth 100000 in
set_option maxHeartbeats 4000000 in
theorem xb_X12_scriptOf_108 {l : Launch} {D : va_G} {A : Nat → ClassId} {B : Nat} {Z : State → Heap → Prop} {vF : Value} (uk : uK B Z vF) {K2 : Int32 → Int32 → Int32 → uS → Option Int32} (hK2 : ∀ (x1 : Int32) (x2 : Int32) (x3 : Int32)  (s : uS) (r : Int32), K2 x1 x2 x3 s = some r → GU l D A B Z mX12_scriptOf 1 (s, some (.int r)) s 2 [(0, .ref (B + 1079)), (1, .int x1), (2, .int x2), (3, .int x3)] []) {x1 : Int32} {x2 : Int32} {x3 : Int32} {b5 : Bool} {s : uS} {r : Int32}  (h : fb_X12_scriptOf_108 K2 x1 x2 x3 b5 s = some r) : GU l D A B Z mX12_scriptOf 1 (s, some (.int r)) s 108 [(0, .ref (B + 1079)), (1, .int x1), (2, .int x2), (3, .int x3), (5, .int (bI b5))] [] := by
  unfold fb_X12_scriptOf_108 at h
  refine uu_iload dX12_scriptOf_108 (List.mem_of_getElem? (i := 4) rfl) ?_
  refine uu_ifb_eq (tgt := 115) dX12_scriptOf_110 (by decide) (fun c1 => ?_) (fun c1 => ?_)
  · replace h := uu_neg c1 h
    refine uu_iinc (v := x3 + 1) dX12_scriptOf_115 (k := 3) rfl rfl (by decide) rfl ?_
    refine uu_goto (tgt := 2) dX12_scriptOf_118 (by decide) ?_
    refine uu_lv [1, 2, 3, 0] (lv' := [(0, .ref (B + 1079)), (1, .int x1), (2, .int x2), (3, .int (x3 + 1))]) rfl ?_
    exact hK2 x1 x2 (x3 + 1) _ _ h
  · replace h := uu_pos c1 h
    refine uu_iload_n dX12_scriptOf_113 rfl (List.mem_of_getElem? (i := 3) rfl) ?_
    have hr := Option.some.inj h
    subst hr
    exact uu_iret rfl dX12_scriptOf_114
def fb_X12_scriptOf_54 (K2 : Int32 → Int32 → Int32 → uS → Option Int32) (K54 : Int32 → Int32 → Int32 → Int32 → Bool → Int32 → uS → Option Int32) (x1 : Int32) (x2 : Int32) (x3 : Int32) (x4 : Int32) (b5 : Bool) (x6 : Int32) (s : uS) : Option Int32 := (iget 20 s 1153 x4).bind fun v1 => if v1 ≤ x6 then (fb_X12_scriptOf_108 K2 x1 x2 x3 b5 s) else (if b5 = true then ((iget 20 s 1152 (((20 : Int32) * x4) + x6)).bind fun v5 => (fn_X12_partText x1 x2 x6 s).bind fun v7 => if v5 = v7 then (K54 x1 x2 x3 x4 true (x6 + 1) s) else (K54 x1 x2 x3 x4 false (x6 + 1) s)) else (fb_X12_scriptOf_108 K2 x1 x2 x3 b5 s))
set_option maxRecDepth 100000 in
set_option maxHeartbeats 4000000 in
theorem xb_X12_scriptOf_54 {l : Launch} {D : va_G} {A : Nat → ClassId} {B : Nat} {Z : State → Heap → Prop} {vF : Value} (uk : uK B Z vF) {K2 : Int32 → Int32 → Int32 → uS → Option Int32} {K54 : Int32 → Int32 → Int32 → Int32 → Bool → Int32 → uS → Option Int32} (hK2 : ∀ (x1 : Int32) (x2 : Int32) (x3 : Int32)  (s : uS) (r : Int32), K2 x1 x2 x3 s = some r → GU l D A B Z mX12_scriptOf 1 (s, some (.int r)) s 2 [(0, .ref (B + 1079)), (1, .int x1), (2, .int x2), (3, .int x3)] []) (hK54 : ∀ (x1 : Int32) (x2 : Int32) (x3 : Int32) (x4 : Int32) (b5 : Bool) (x6 : Int32)  (s : uS) (r : Int32), K54 x1 x2 x3 x4 b5 x6 s = some r → GU l D A B Z mX12_scriptOf 1 (s, some (.int r)) s 54 [(0, .ref (B + 1079)), (1, .int x1), (2, .int x2), (3, .int x3), (4, .int x4), (5, .int (bI b5)), (6, .int x6)] []) {x1 : Int32} {x2 : Int32} {x3 : Int32} {x4 : Int32} {b5 : Bool} {x6 : Int32} {s : uS} {r : Int32}  (h : fb_X12_scriptOf_54 K2 K54 x1 x2 x3 x4 b5 x6 s = some r) : GU l D A B Z mX12_scriptOf 1 (s, some (.int r)) s 54 [(0, .ref (B + 1079)), (1, .int x1), (2, .int x2), (3, .int x3), (4, .int x4), (5, .int (bI b5)), (6, .int x6)] [] := by
  unfold fb_X12_scriptOf_54 at h
  refine uu_iload dX12_scriptOf_54 (List.mem_of_getElem? (i := 6) rfl) ?_
  refine uu_aload_n dX12_scriptOf_56 rfl (List.mem_of_getElem? (i := 0) rfl) ?_
  refine uu_geta (ci := 12) (N := 153) fX12_1186 (by decide) so_1079.is (by decide) (c := 1153) (by decide) dX12_scriptOf_57 ?_
  refine uu_iload dX12_scriptOf_60 (List.mem_of_getElem? (i := 4) rfl) ?_
  obtain ⟨v1, e2, h⟩ := uu_ob h
  refine uu_iald e2 dX12_scriptOf_62 ?_
  refine uu_icmp_ge (tgt := 108) dX12_scriptOf_63 (by decide) (fun c3 => ?_) (fun c3 => ?_)
  · replace h := uu_pos c3 h
    refine uu_lv [0, 1, 2, 3, 5] (lv' := [(0, .ref (B + 1079)), (1, .int x1), (2, .int x2), (3, .int x3), (5, .int (bI b5))]) rfl ?_
    exact xb_X12_scriptOf_108 uk hK2 h
  · replace h := uu_neg c3 h
    refine uu_iload dX12_scriptOf_66 (List.mem_of_getElem? (i := 5) rfl) ?_
    refine uu_ifb_eq (tgt := 108) dX12_scriptOf_68 (by decide) (fun c4 => ?_) (fun c4 => ?_)
    · replace h := uu_neg c4 h
      refine uu_lv [0, 1, 2, 3, 5] (lv' := [(0, .ref (B + 1079)), (1, .int x1), (2, .int x2), (3, .int x3), (5, .int (bI b5))]) rfl ?_
      exact xb_X12_scriptOf_108 uk hK2 h
    · replace h := uu_pos c4 h
      refine uu_aload_n dX12_scriptOf_71 rfl (List.mem_of_getElem? (i := 0) rfl) ?_
      refine uu_geta (ci := 12) (N := 153) fX12_1192 (by decide) so_1079.is (by decide) (c := 1152) (by decide) dX12_scriptOf_72 ?_
      refine uu_bipush (v := 20) dX12_scriptOf_75 (by decide) ?_
      refine uu_iload dX12_scriptOf_77 (List.mem_of_getElem? (i := 4) rfl) ?_
      refine uu_imul dX12_scriptOf_79 ?_
      refine uu_iload dX12_scriptOf_80 (List.mem_of_getElem? (i := 6) rfl) ?_
      refine uu_iadd dX12_scriptOf_82 ?_
      obtain ⟨v5, e6, h⟩ := uu_ob h
      refine uu_iald e6 dX12_scriptOf_83 ?_
      refine uu_aload_n dX12_scriptOf_84 rfl (List.mem_of_getElem? (i := 0) rfl) ?_
      refine uu_iload_n dX12_scriptOf_85 rfl (List.mem_of_getElem? (i := 1) rfl) ?_
      refine uu_iload_n dX12_scriptOf_86 rfl (List.mem_of_getElem? (i := 2) rfl) ?_
      refine uu_iload dX12_scriptOf_87 (List.mem_of_getElem? (i := 6) rfl) ?_
      obtain ⟨v7, e8, h⟩ := uu_ob h
      refine uu_cv (d1 := 0) (k := 1079) (ci := 12) (T := TX12) (N := 153) (As := [.int x1, .int x2, .int x6]) (st := [.int v5]) (st' := [.int v7, .int v5]) (xc_X12_partText uk  e8) so_1079.is (by decide) rfl kX12_partText lX12_1195 sX12_partText (by decide) (Nat.le_of_ble_eq_true rfl) dX12_scriptOf_89 rfl ?_
      refine uu_icmp_ne (tgt := 99) dX12_scriptOf_92 (by decide) (fun c9 => ?_) (fun c9 => ?_)
      · replace h := uu_neg c9 h
        refine uu_iconst (v := 0) dX12_scriptOf_99 (by decide) ?_
        refine uu_istore dX12_scriptOf_100 (by decide) rfl ?_
        refine uu_iinc (v := x6 + 1) dX12_scriptOf_102 (k := 6) rfl rfl (by decide) rfl ?_
        refine uu_goto (tgt := 54) dX12_scriptOf_105 (by decide) ?_
        refine uu_lv [2, 3, 4, 5, 6, 1, 0] (lv' := [(0, .ref (B + 1079)), (1, .int x1), (2, .int x2), (3, .int x3), (4, .int x4), (5, .int 0), (6, .int (x6 + 1))]) rfl ?_
        exact hK54 x1 x2 x3 x4 false (x6 + 1) _ _ h
      · replace h := uu_pos c9 h
        refine uu_iconst (v := 1) dX12_scriptOf_95 (by decide) ?_
        refine uu_goto (tgt := 100) dX12_scriptOf_96 (by decide) ?_
        refine uu_istore dX12_scriptOf_100 (by decide) rfl ?_
        refine uu_iinc (v := x6 + 1) dX12_scriptOf_102 (k := 6) rfl rfl (by decide) rfl ?_
        refine uu_goto (tgt := 54) dX12_scriptOf_105 (by decide) ?_
        refine uu_lv [2, 3, 4, 5, 6, 1, 0] (lv' := [(0, .ref (B + 1079)), (1, .int x1), (2, .int x2), (3, .int x3), (4, .int x4), (5, .int 1), (6, .int (x6 + 1))]) rfl ?_
        exact hK54 x1 x2 x3 x4 true (x6 + 1) _ _ h
def fn_X12_scriptOf_54 (K2 : Int32 → Int32 → Int32 → uS → Option Int32) : Nat → Int32 → Int32 → Int32 → Int32 → Bool → Int32 → uS → Option Int32
  | 0 => fun _ _ _ _ _ _ _ => none
  | n + 1 => fb_X12_scriptOf_54 K2 (fn_X12_scriptOf_54 K2 n)
set_option maxRecDepth 100000 in
set_option maxHeartbeats 4000000 in
theorem xn_X12_scriptOf_54 {l : Launch} {D : va_G} {A : Nat → ClassId} {B : Nat} {Z : State → Heap → Prop} {vF : Value} (uk : uK B Z vF) {K2 : Int32 → Int32 → Int32 → uS → Option Int32} (hK2 : ∀ (x1 : Int32) (x2 : Int32) (x3 : Int32)  (s : uS) (r : Int32), K2 x1 x2 x3 s = some r → GU l D A B Z mX12_scriptOf 1 (s, some (.int r)) s 2 [(0, .ref (B + 1079)), (1, .int x1), (2, .int x2), (3, .int x3)] []) : ∀ (n : Nat) (x1 : Int32) (x2 : Int32) (x3 : Int32) (x4 : Int32) (b5 : Bool) (x6 : Int32)  (s : uS) (r : Int32), fn_X12_scriptOf_54 K2 n x1 x2 x3 x4 b5 x6 s = some r → GU l D A B Z mX12_scriptOf 1 (s, some (.int r)) s 54 [(0, .ref (B + 1079)), (1, .int x1), (2, .int x2), (3, .int x3), (4, .int x4), (5, .int (bI b5)), (6, .int x6)] [] := by
  intro n
  induction n with
  | zero => intro x1 x2 x3 x4 b5 x6 s r h
            cases h
  | succ n ih => intro x1 x2 x3 x4 b5 x6 s r h
                 exact xb_X12_scriptOf_54 uk hK2 ih  h
def fb_X12_scriptOf_2 (K2 : Int32 → Int32 → Int32 → uS → Option Int32) (x1 : Int32) (x2 : Int32) (x3 : Int32) (s : uS) : Option Int32 := (iget 20 s 1149 x1).bind fun v1 => if v1 ≤ x3 then (some (-1 : Int32)) else ((iget 20 s 1151 (((4 : Int32) * x1) + x3)).bind fun v4 => (iget 20 s 1153 v4).bind fun v6 => (iget 20 s 1164 (((2 : Int32) * x1) + x2)).bind fun v8 => if v6 = v8 then (fn_X12_scriptOf_54 K2 uFu x1 x2 x3 v4 true 0 s) else (fn_X12_scriptOf_54 K2 uFu x1 x2 x3 v4 false 0 s))
set_option maxRecDepth 100000 in
set_option maxHeartbeats 4000000 in
theorem xb_X12_scriptOf_2 {l : Launch} {D : va_G} {A : Nat → ClassId} {B : Nat} {Z : State → Heap → Prop} {vF : Value} (uk : uK B Z vF) {K2 : Int32 → Int32 → Int32 → uS → Option Int32} (hK2 : ∀ (x1 : Int32) (x2 : Int32) (x3 : Int32)  (s : uS) (r : Int32), K2 x1 x2 x3 s = some r → GU l D A B Z mX12_scriptOf 1 (s, some (.int r)) s 2 [(0, .ref (B + 1079)), (1, .int x1), (2, .int x2), (3, .int x3)] []) {x1 : Int32} {x2 : Int32} {x3 : Int32} {s : uS} {r : Int32}  (h : fb_X12_scriptOf_2 K2 x1 x2 x3 s = some r) : GU l D A B Z mX12_scriptOf 1 (s, some (.int r)) s 2 [(0, .ref (B + 1079)), (1, .int x1), (2, .int x2), (3, .int x3)] [] := by
  unfold fb_X12_scriptOf_2 at h
  refine uu_iload_n dX12_scriptOf_2 rfl (List.mem_of_getElem? (i := 3) rfl) ?_
  refine uu_aload_n dX12_scriptOf_3 rfl (List.mem_of_getElem? (i := 0) rfl) ?_
  refine uu_geta (ci := 12) (N := 153) fX12_1180 (by decide) so_1079.is (by decide) (c := 1149) (by decide) dX12_scriptOf_4 ?_
  refine uu_iload_n dX12_scriptOf_7 rfl (List.mem_of_getElem? (i := 1) rfl) ?_
  obtain ⟨v1, e2, h⟩ := uu_ob h
  refine uu_iald e2 dX12_scriptOf_8 ?_
  refine uu_icmp_ge (tgt := 121) dX12_scriptOf_9 (by decide) (fun c3 => ?_) (fun c3 => ?_)
  · replace h := uu_pos c3 h
    refine uu_iconst (v := -1) dX12_scriptOf_121 (by decide) ?_
    have hr := Option.some.inj h
    subst hr
    exact uu_iret rfl dX12_scriptOf_122
  · replace h := uu_neg c3 h
    refine uu_aload_n dX12_scriptOf_12 rfl (List.mem_of_getElem? (i := 0) rfl) ?_
    refine uu_geta (ci := 12) (N := 153) fX12_1183 (by decide) so_1079.is (by decide) (c := 1151) (by decide) dX12_scriptOf_13 ?_
    refine uu_iconst (v := 4) dX12_scriptOf_16 (by decide) ?_
    refine uu_iload_n dX12_scriptOf_17 rfl (List.mem_of_getElem? (i := 1) rfl) ?_
    refine uu_imul dX12_scriptOf_18 ?_
    refine uu_iload_n dX12_scriptOf_19 rfl (List.mem_of_getElem? (i := 3) rfl) ?_
    refine uu_iadd dX12_scriptOf_20 ?_
    obtain ⟨v4, e5, h⟩ := uu_ob h
    refine uu_iald e5 dX12_scriptOf_21 ?_
    refine uu_istore dX12_scriptOf_22 (by decide) rfl ?_
    refine uu_aload_n dX12_scriptOf_24 rfl (List.mem_of_getElem? (i := 1) rfl) ?_
    refine uu_geta (ci := 12) (N := 153) fX12_1186 (by decide) so_1079.is (by decide) (c := 1153) (by decide) dX12_scriptOf_25 ?_
    refine uu_iload dX12_scriptOf_28 (List.mem_of_getElem? (i := 0) rfl) ?_
    obtain ⟨v6, e7, h⟩ := uu_ob h
    refine uu_iald e7 dX12_scriptOf_30 ?_
    refine uu_aload_n dX12_scriptOf_31 rfl (List.mem_of_getElem? (i := 1) rfl) ?_
    refine uu_geta (ci := 12) (N := 153) fX12_1189 (by decide) so_1079.is (by decide) (c := 1164) (by decide) dX12_scriptOf_32 ?_
    refine uu_iconst (v := 2) dX12_scriptOf_35 (by decide) ?_
    refine uu_iload_n dX12_scriptOf_36 rfl (List.mem_of_getElem? (i := 2) rfl) ?_
    refine uu_imul dX12_scriptOf_37 ?_
    refine uu_iload_n dX12_scriptOf_38 rfl (List.mem_of_getElem? (i := 3) rfl) ?_
    refine uu_iadd dX12_scriptOf_39 ?_
    obtain ⟨v8, e9, h⟩ := uu_ob h
    refine uu_iald e9 dX12_scriptOf_40 ?_
    refine uu_icmp_ne (tgt := 48) dX12_scriptOf_41 (by decide) (fun c10 => ?_) (fun c10 => ?_)
    · replace h := uu_neg c10 h
      refine uu_iconst (v := 0) dX12_scriptOf_48 (by decide) ?_
      refine uu_istore dX12_scriptOf_49 (by decide) rfl ?_
      refine uu_iconst (v := 0) dX12_scriptOf_51 (by decide) ?_
      refine uu_istore dX12_scriptOf_52 (by decide) rfl ?_
      refine uu_lv [3, 4, 5, 6, 2, 1, 0] (lv' := [(0, .ref (B + 1079)), (1, .int x1), (2, .int x2), (3, .int x3), (4, .int v4), (5, .int 0), (6, .int 0)]) rfl ?_
      exact xn_X12_scriptOf_54 uk hK2 _ _ _ _ _ _ _ _ _ h
    · replace h := uu_pos c10 h
      refine uu_iconst (v := 1) dX12_scriptOf_44 (by decide) ?_
      refine uu_goto (tgt := 49) dX12_scriptOf_45 (by decide) ?_
      refine uu_istore dX12_scriptOf_49 (by decide) rfl ?_
      refine uu_iconst (v := 0) dX12_scriptOf_51 (by decide) ?_
      refine uu_istore dX12_scriptOf_52 (by decide) rfl ?_
      refine uu_lv [3, 4, 5, 6, 2, 1, 0] (lv' := [(0, .ref (B + 1079)), (1, .int x1), (2, .int x2), (3, .int x3), (4, .int v4), (5, .int 1), (6, .int 0)]) rfl ?_
      exact xn_X12_scriptOf_54 uk hK2 _ _ _ _ _ _ _ _ _ h
def fn_X12_scriptOf_2  : Nat → Int32 → Int32 → Int32 → uS → Option Int32
  | 0 => fun _ _ _ _ => none
  | n + 1 => fb_X12_scriptOf_2 (fn_X12_scriptOf_2  n)
set_option maxRecDepth 100000 in
set_option maxHeartbeats 4000000 in
theorem xn_X12_scriptOf_2 {l : Launch} {D : va_G} {A : Nat → ClassId} {B : Nat} {Z : State → Heap → Prop} {vF : Value} (uk : uK B Z vF)   : ∀ (n : Nat) (x1 : Int32) (x2 : Int32) (x3 : Int32)  (s : uS) (r : Int32), fn_X12_scriptOf_2  n x1 x2 x3 s = some r → GU l D A B Z mX12_scriptOf 1 (s, some (.int r)) s 2 [(0, .ref (B + 1079)), (1, .int x1), (2, .int x2), (3, .int x3)] [] := by
  intro n
  induction n with
  | zero => intro x1 x2 x3 s r h
            cases h
  | succ n ih => intro x1 x2 x3 s r h
                 exact xb_X12_scriptOf_2 uk ih  h
def fn_X12_scriptOf (x1 : Int32) (x2 : Int32) (s : uS) : Option Int32 := fn_X12_scriptOf_2 uFu x1 x2 0 s
set_option maxRecDepth 100000 in
set_option maxHeartbeats 4000000 in
theorem xc_X12_scriptOf {l : Launch} {D : va_G} {A : Nat → ClassId} {B : Nat} {Z : State → Heap → Prop} {vF : Value} (uk : uK B Z vF) {x1 : Int32} {x2 : Int32} {s : uS} {r : Int32}  (h : fn_X12_scriptOf x1 x2 s = some r) : CU l D A B Z 1 mX12_scriptOf s [.ref (B + 1079), .int x1, .int x2] (s, some (.int r)) := by
  unfold fn_X12_scriptOf at h
  refine cu_of rfl uk.1.1 (Nat.le_of_ble_eq_true rfl) ?_
  show GU _ _ _ _ _ _ _ _ _ 0 [(0, .ref (B + 1079)), (1, .int x1), (2, .int x2)] []
  refine uu_iconst (v := 0) dX12_scriptOf_0 (by decide) ?_
  refine uu_istore_n dX12_scriptOf_1 rfl (by decide) rfl ?_
  refine uu_lv [1, 2, 3, 0] (lv' := [(0, .ref (B + 1079)), (1, .int x1), (2, .int x2), (3, .int 0)]) rfl ?_
  exact xn_X12_scriptOf_2 uk  _ _ _ _ _ _ h
abbrev mX12_freeSlot : hM := (yX12_freeSlot, cX12_freeSlot, 5, (some (.int)))
theorem dX12_freeSlot_15 : decode cX12_freeSlot 15 = .ok (.iload 4, 2) := by decide +kernel
theorem dX12_freeSlot_17 : decode cX12_freeSlot 17 = .ok (.aload_n 0, 1) := by decide +kernel
theorem dX12_freeSlot_18 : decode cX12_freeSlot 18 = .ok (.getfield 1180, 3) := by decide +kernel
theorem dX12_freeSlot_21 : decode cX12_freeSlot 21 = .ok (.iload_n 1, 1) := by decide +kernel
theorem dX12_freeSlot_22 : decode cX12_freeSlot 22 = .ok (.iaload, 1) := by decide +kernel
theorem dX12_freeSlot_23 : decode cX12_freeSlot 23 = .ok (.if_icmp .ge 34, 3) := by decide +kernel
theorem dX12_freeSlot_57 : decode cX12_freeSlot 57 = .ok (.iload_n 3, 1) := by decide +kernel
theorem dX12_freeSlot_58 : decode cX12_freeSlot 58 = .ok (.ifCond .eq 9, 3) := by decide +kernel
theorem dX12_freeSlot_67 : decode cX12_freeSlot 67 = .ok (.iload_n 2, 1) := by decide +kernel
theorem dX12_freeSlot_68 : decode cX12_freeSlot 68 = .ok (.istore_n 2, 1) := by decide +kernel
theorem dX12_freeSlot_69 : decode cX12_freeSlot 69 = .ok (.goto (-63), 3) := by decide +kernel
theorem dX12_freeSlot_61 : decode cX12_freeSlot 61 = .ok (.iload_n 2, 1) := by decide +kernel
theorem dX12_freeSlot_62 : decode cX12_freeSlot 62 = .ok (.iconst 1, 1) := by decide +kernel
theorem dX12_freeSlot_63 : decode cX12_freeSlot 63 = .ok (.iadd, 1) := by decide +kernel
theorem dX12_freeSlot_64 : decode cX12_freeSlot 64 = .ok (.goto 4, 3) := by decide +kernel
theorem dX12_freeSlot_26 : decode cX12_freeSlot 26 = .ok (.iload_n 3, 1) := by decide +kernel
theorem dX12_freeSlot_27 : decode cX12_freeSlot 27 = .ok (.ifCond .ne 18, 3) := by decide +kernel
theorem dX12_freeSlot_45 : decode cX12_freeSlot 45 = .ok (.iconst 1, 1) := by decide +kernel
theorem dX12_freeSlot_46 : decode cX12_freeSlot 46 = .ok (.goto 4, 3) := by decide +kernel
theorem dX12_freeSlot_50 : decode cX12_freeSlot 50 = .ok (.istore_n 3, 1) := by decide +kernel
theorem dX12_freeSlot_51 : decode cX12_freeSlot 51 = .ok (.iinc 4 1, 3) := by decide +kernel
theorem dX12_freeSlot_54 : decode cX12_freeSlot 54 = .ok (.goto (-39), 3) := by decide +kernel
theorem dX12_freeSlot_30 : decode cX12_freeSlot 30 = .ok (.aload_n 0, 1) := by decide +kernel
theorem dX12_freeSlot_31 : decode cX12_freeSlot 31 = .ok (.getfield 1183, 3) := by decide +kernel
theorem dX12_freeSlot_34 : decode cX12_freeSlot 34 = .ok (.iconst 4, 1) := by decide +kernel
theorem dX12_freeSlot_35 : decode cX12_freeSlot 35 = .ok (.iload_n 1, 1) := by decide +kernel
theorem dX12_freeSlot_36 : decode cX12_freeSlot 36 = .ok (.imul, 1) := by decide +kernel
theorem dX12_freeSlot_37 : decode cX12_freeSlot 37 = .ok (.iload 4, 2) := by decide +kernel
theorem dX12_freeSlot_39 : decode cX12_freeSlot 39 = .ok (.iadd, 1) := by decide +kernel
theorem dX12_freeSlot_40 : decode cX12_freeSlot 40 = .ok (.iaload, 1) := by decide +kernel
theorem dX12_freeSlot_41 : decode cX12_freeSlot 41 = .ok (.iload_n 2, 1) := by decide +kernel
theorem dX12_freeSlot_42 : decode cX12_freeSlot 42 = .ok (.if_icmp .ne 7, 3) := by decide +kernel
theorem dX12_freeSlot_49 : decode cX12_freeSlot 49 = .ok (.iconst 0, 1) := by decide +kernel
theorem dX12_freeSlot_6 : decode cX12_freeSlot 6 = .ok (.iload_n 3, 1) := by decide +kernel
theorem dX12_freeSlot_7 : decode cX12_freeSlot 7 = .ok (.ifCond .eq 65, 3) := by decide +kernel
theorem dX12_freeSlot_72 : decode cX12_freeSlot 72 = .ok (.iload_n 2, 1) := by decide +kernel
theorem dX12_freeSlot_73 : decode cX12_freeSlot 73 = .ok (.ireturn, 1) := by decide +kernel
theorem dX12_freeSlot_10 : decode cX12_freeSlot 10 = .ok (.iconst 0, 1) := by decide +kernel
theorem dX12_freeSlot_11 : decode cX12_freeSlot 11 = .ok (.istore_n 3, 1) := by decide +kernel
theorem dX12_freeSlot_12 : decode cX12_freeSlot 12 = .ok (.iconst 0, 1) := by decide +kernel
theorem dX12_freeSlot_13 : decode cX12_freeSlot 13 = .ok (.istore 4, 2) := by decide +kernel
theorem dX12_freeSlot_0 : decode cX12_freeSlot 0 = .ok (.iconst 4, 1) := by decide +kernel
theorem dX12_freeSlot_1 : decode cX12_freeSlot 1 = .ok (.iload_n 1, 1) := by decide +kernel
theorem dX12_freeSlot_2 : decode cX12_freeSlot 2 = .ok (.imul, 1) := by decide +kernel
theorem dX12_freeSlot_3 : decode cX12_freeSlot 3 = .ok (.istore_n 2, 1) := by decide +kernel
theorem dX12_freeSlot_4 : decode cX12_freeSlot 4 = .ok (.iconst 1, 1) := by decide +kernel
theorem dX12_freeSlot_5 : decode cX12_freeSlot 5 = .ok (.istore_n 3, 1) := by decide +kernel
def fb_X12_freeSlot_15 (K6 : Int32 → Int32 → Bool → uS → Option Int32) (K15 : Int32 → Int32 → Bool → Int32 → uS → Option Int32) (x1 : Int32) (x2 : Int32) (b3 : Bool) (x4 : Int32) (s : uS) : Option Int32 := (iget 20 s 1149 x1).bind fun v1 => if v1 ≤ x4 then (if b3 = true then (K6 x1 (x2 + 1) b3 s) else (K6 x1 x2 b3 s)) else (if b3 = true then (K15 x1 x2 true (x4 + 1) s) else ((iget 20 s 1151 (((4 : Int32) * x1) + x4)).bind fun v6 => if v6 = x2 then (K15 x1 x2 true (x4 + 1) s) else (K15 x1 x2 false (x4 + 1) s)))
set_option maxRecDepth 100000 in
set_option maxHeartbeats 4000000 in
theorem xb_X12_freeSlot_15 {l : Launch} {D : va_G} {A : Nat → ClassId} {B : Nat} {Z : State → Heap → Prop} {vF : Value} (uk : uK B Z vF) {K6 : Int32 → Int32 → Bool → uS → Option Int32} {K15 : Int32 → Int32 → Bool → Int32 → uS → Option Int32} (hK6 : ∀ (x1 : Int32) (x2 : Int32) (b3 : Bool)  (s : uS) (r : Int32), K6 x1 x2 b3 s = some r → GU l D A B Z mX12_freeSlot 0 (s, some (.int r)) s 6 [(0, .ref (B + 1079)), (1, .int x1), (2, .int x2), (3, .int (bI b3))] []) (hK15 : ∀ (x1 : Int32) (x2 : Int32) (b3 : Bool) (x4 : Int32)  (s : uS) (r : Int32), K15 x1 x2 b3 x4 s = some r → GU l D A B Z mX12_freeSlot 0 (s, some (.int r)) s 15 [(0, .ref (B + 1079)), (1, .int x1), (2, .int x2), (3, .int (bI b3)), (4, .int x4)] []) {x1 : Int32} {x2 : Int32} {b3 : Bool} {x4 : Int32} {s : uS} {r : Int32}  (h : fb_X12_freeSlot_15 K6 K15 x1 x2 b3 x4 s = some r) : GU l D A B Z mX12_freeSlot 0 (s, some (.int r)) s 15 [(0, .ref (B + 1079)), (1, .int x1), (2, .int x2), (3, .int (bI b3)), (4, .int x4)] [] := by
  unfold fb_X12_freeSlot_15 at h
  refine uu_iload dX12_freeSlot_15 (List.mem_of_getElem? (i := 4) rfl) ?_
  refine uu_aload_n dX12_freeSlot_17 rfl (List.mem_of_getElem? (i := 0) rfl) ?_
  refine uu_geta (ci := 12) (N := 153) fX12_1180 (by decide) so_1079.is (by decide) (c := 1149) (by decide) dX12_freeSlot_18 ?_
  refine uu_iload_n dX12_freeSlot_21 rfl (List.mem_of_getElem? (i := 1) rfl) ?_
  obtain ⟨v1, e2, h⟩ := uu_ob h
  refine uu_iald e2 dX12_freeSlot_22 ?_
  refine uu_icmp_ge (tgt := 57) dX12_freeSlot_23 (by decide) (fun c3 => ?_) (fun c3 => ?_)
  · replace h := uu_pos c3 h
    refine uu_iload_n dX12_freeSlot_57 rfl (List.mem_of_getElem? (i := 3) rfl) ?_
    refine uu_ifb_eq (tgt := 67) dX12_freeSlot_58 (by decide) (fun c4 => ?_) (fun c4 => ?_)
    · replace h := uu_neg c4 h
      refine uu_iload_n dX12_freeSlot_67 rfl (List.mem_of_getElem? (i := 2) rfl) ?_
      refine uu_istore_n dX12_freeSlot_68 rfl (by decide) rfl ?_
      refine uu_goto (tgt := 6) dX12_freeSlot_69 (by decide) ?_
      refine uu_lv [1, 2, 0, 3] (lv' := [(0, .ref (B + 1079)), (1, .int x1), (2, .int x2), (3, .int (bI b3))]) rfl ?_
      exact hK6 x1 x2 b3 _ _ h
    · replace h := uu_pos c4 h
      refine uu_iload_n dX12_freeSlot_61 rfl (List.mem_of_getElem? (i := 2) rfl) ?_
      refine uu_iconst (v := 1) dX12_freeSlot_62 (by decide) ?_
      refine uu_iadd dX12_freeSlot_63 ?_
      refine uu_goto (tgt := 68) dX12_freeSlot_64 (by decide) ?_
      refine uu_istore_n dX12_freeSlot_68 rfl (by decide) rfl ?_
      refine uu_goto (tgt := 6) dX12_freeSlot_69 (by decide) ?_
      refine uu_lv [1, 2, 0, 3] (lv' := [(0, .ref (B + 1079)), (1, .int x1), (2, .int (x2 + 1)), (3, .int (bI b3))]) rfl ?_
      exact hK6 x1 (x2 + 1) b3 _ _ h
  · replace h := uu_neg c3 h
    refine uu_iload_n dX12_freeSlot_26 rfl (List.mem_of_getElem? (i := 3) rfl) ?_
    refine uu_ifb_ne (tgt := 45) dX12_freeSlot_27 (by decide) (fun c5 => ?_) (fun c5 => ?_)
    · replace h := uu_pos c5 h
      refine uu_iconst (v := 1) dX12_freeSlot_45 (by decide) ?_
      refine uu_goto (tgt := 50) dX12_freeSlot_46 (by decide) ?_
      refine uu_istore_n dX12_freeSlot_50 rfl (by decide) rfl ?_
      refine uu_iinc (v := x4 + 1) dX12_freeSlot_51 (k := 4) rfl rfl (by decide) rfl ?_
      refine uu_goto (tgt := 15) dX12_freeSlot_54 (by decide) ?_
      refine uu_lv [2, 3, 4, 1, 0] (lv' := [(0, .ref (B + 1079)), (1, .int x1), (2, .int x2), (3, .int 1), (4, .int (x4 + 1))]) rfl ?_
      exact hK15 x1 x2 true (x4 + 1) _ _ h
    · replace h := uu_neg c5 h
      refine uu_aload_n dX12_freeSlot_30 rfl (List.mem_of_getElem? (i := 0) rfl) ?_
      refine uu_geta (ci := 12) (N := 153) fX12_1183 (by decide) so_1079.is (by decide) (c := 1151) (by decide) dX12_freeSlot_31 ?_
      refine uu_iconst (v := 4) dX12_freeSlot_34 (by decide) ?_
      refine uu_iload_n dX12_freeSlot_35 rfl (List.mem_of_getElem? (i := 1) rfl) ?_
      refine uu_imul dX12_freeSlot_36 ?_
      refine uu_iload dX12_freeSlot_37 (List.mem_of_getElem? (i := 4) rfl) ?_
      refine uu_iadd dX12_freeSlot_39 ?_
      obtain ⟨v6, e7, h⟩ := uu_ob h
      refine uu_iald e7 dX12_freeSlot_40 ?_
      refine uu_iload_n dX12_freeSlot_41 rfl (List.mem_of_getElem? (i := 2) rfl) ?_
      refine uu_icmp_ne (tgt := 49) dX12_freeSlot_42 (by decide) (fun c8 => ?_) (fun c8 => ?_)
      · replace h := uu_neg c8 h
        refine uu_iconst (v := 0) dX12_freeSlot_49 (by decide) ?_
        refine uu_istore_n dX12_freeSlot_50 rfl (by decide) rfl ?_
        refine uu_iinc (v := x4 + 1) dX12_freeSlot_51 (k := 4) rfl rfl (by decide) rfl ?_
        refine uu_goto (tgt := 15) dX12_freeSlot_54 (by decide) ?_
        refine uu_lv [2, 3, 4, 1, 0] (lv' := [(0, .ref (B + 1079)), (1, .int x1), (2, .int x2), (3, .int 0), (4, .int (x4 + 1))]) rfl ?_
        exact hK15 x1 x2 false (x4 + 1) _ _ h
      · replace h := uu_pos c8 h
        refine uu_iconst (v := 1) dX12_freeSlot_45 (by decide) ?_
        refine uu_goto (tgt := 50) dX12_freeSlot_46 (by decide) ?_
        refine uu_istore_n dX12_freeSlot_50 rfl (by decide) rfl ?_
        refine uu_iinc (v := x4 + 1) dX12_freeSlot_51 (k := 4) rfl rfl (by decide) rfl ?_
        refine uu_goto (tgt := 15) dX12_freeSlot_54 (by decide) ?_
        refine uu_lv [2, 3, 4, 1, 0] (lv' := [(0, .ref (B + 1079)), (1, .int x1), (2, .int x2), (3, .int 1), (4, .int (x4 + 1))]) rfl ?_
        exact hK15 x1 x2 true (x4 + 1) _ _ h
def fn_X12_freeSlot_15 (K6 : Int32 → Int32 → Bool → uS → Option Int32) : Nat → Int32 → Int32 → Bool → Int32 → uS → Option Int32
  | 0 => fun _ _ _ _ _ => none
  | n + 1 => fb_X12_freeSlot_15 K6 (fn_X12_freeSlot_15 K6 n)
set_option maxRecDepth 100000 in
set_option maxHeartbeats 4000000 in
theorem xn_X12_freeSlot_15 {l : Launch} {D : va_G} {A : Nat → ClassId} {B : Nat} {Z : State → Heap → Prop} {vF : Value} (uk : uK B Z vF) {K6 : Int32 → Int32 → Bool → uS → Option Int32} (hK6 : ∀ (x1 : Int32) (x2 : Int32) (b3 : Bool)  (s : uS) (r : Int32), K6 x1 x2 b3 s = some r → GU l D A B Z mX12_freeSlot 0 (s, some (.int r)) s 6 [(0, .ref (B + 1079)), (1, .int x1), (2, .int x2), (3, .int (bI b3))] []) : ∀ (n : Nat) (x1 : Int32) (x2 : Int32) (b3 : Bool) (x4 : Int32)  (s : uS) (r : Int32), fn_X12_freeSlot_15 K6 n x1 x2 b3 x4 s = some r → GU l D A B Z mX12_freeSlot 0 (s, some (.int r)) s 15 [(0, .ref (B + 1079)), (1, .int x1), (2, .int x2), (3, .int (bI b3)), (4, .int x4)] [] := by
  intro n
  induction n with
  | zero => intro x1 x2 b3 x4 s r h
            cases h
  | succ n ih => intro x1 x2 b3 x4 s r h
                 exact xb_X12_freeSlot_15 uk hK6 ih  h
def fb_X12_freeSlot_6 (K6 : Int32 → Int32 → Bool → uS → Option Int32) (x1 : Int32) (x2 : Int32) (b3 : Bool) (s : uS) : Option Int32 := if b3 = true then (fn_X12_freeSlot_15 K6 uFu x1 x2 false 0 s) else (some x2)
set_option maxRecDepth 100000 in
set_option maxHeartbeats 4000000 in
theorem xb_X12_freeSlot_6 {l : Launch} {D : va_G} {A : Nat → ClassId} {B : Nat} {Z : State → Heap → Prop} {vF : Value} (uk : uK B Z vF) {K6 : Int32 → Int32 → Bool → uS → Option Int32} (hK6 : ∀ (x1 : Int32) (x2 : Int32) (b3 : Bool)  (s : uS) (r : Int32), K6 x1 x2 b3 s = some r → GU l D A B Z mX12_freeSlot 0 (s, some (.int r)) s 6 [(0, .ref (B + 1079)), (1, .int x1), (2, .int x2), (3, .int (bI b3))] []) {x1 : Int32} {x2 : Int32} {b3 : Bool} {s : uS} {r : Int32}  (h : fb_X12_freeSlot_6 K6 x1 x2 b3 s = some r) : GU l D A B Z mX12_freeSlot 0 (s, some (.int r)) s 6 [(0, .ref (B + 1079)), (1, .int x1), (2, .int x2), (3, .int (bI b3))] [] := by
  unfold fb_X12_freeSlot_6 at h
  refine uu_iload_n dX12_freeSlot_6 rfl (List.mem_of_getElem? (i := 3) rfl) ?_
  refine uu_ifb_eq (tgt := 72) dX12_freeSlot_7 (by decide) (fun c1 => ?_) (fun c1 => ?_)
  · replace h := uu_neg c1 h
    refine uu_iload_n dX12_freeSlot_72 rfl (List.mem_of_getElem? (i := 2) rfl) ?_
    have hr := Option.some.inj h
    subst hr
    exact uu_iret rfl dX12_freeSlot_73
  · replace h := uu_pos c1 h
    refine uu_iconst (v := 0) dX12_freeSlot_10 (by decide) ?_
    refine uu_istore_n dX12_freeSlot_11 rfl (by decide) rfl ?_
    refine uu_iconst (v := 0) dX12_freeSlot_12 (by decide) ?_
    refine uu_istore dX12_freeSlot_13 (by decide) rfl ?_
    refine uu_lv [2, 3, 4, 1, 0] (lv' := [(0, .ref (B + 1079)), (1, .int x1), (2, .int x2), (3, .int 0), (4, .int 0)]) rfl ?_
    exact xn_X12_freeSlot_15 uk hK6 _ _ _ _ _ _ _ h
def fn_X12_freeSlot_6  : Nat → Int32 → Int32 → Bool → uS → Option Int32
  | 0 => fun _ _ _ _ => none
  | n + 1 => fb_X12_freeSlot_6 (fn_X12_freeSlot_6  n)
set_option maxRecDepth 100000 in
set_option maxHeartbeats 4000000 in
theorem xn_X12_freeSlot_6 {l : Launch} {D : va_G} {A : Nat → ClassId} {B : Nat} {Z : State → Heap → Prop} {vF : Value} (uk : uK B Z vF)   : ∀ (n : Nat) (x1 : Int32) (x2 : Int32) (b3 : Bool)  (s : uS) (r : Int32), fn_X12_freeSlot_6  n x1 x2 b3 s = some r → GU l D A B Z mX12_freeSlot 0 (s, some (.int r)) s 6 [(0, .ref (B + 1079)), (1, .int x1), (2, .int x2), (3, .int (bI b3))] [] := by
  intro n
  induction n with
  | zero => intro x1 x2 b3 s r h
            cases h
  | succ n ih => intro x1 x2 b3 s r h
                 exact xb_X12_freeSlot_6 uk ih  h
def fn_X12_freeSlot (x1 : Int32) (s : uS) : Option Int32 := fn_X12_freeSlot_6 uFu x1 ((4 : Int32) * x1) true s
set_option maxRecDepth 100000 in
set_option maxHeartbeats 4000000 in
theorem xc_X12_freeSlot {l : Launch} {D : va_G} {A : Nat → ClassId} {B : Nat} {Z : State → Heap → Prop} {vF : Value} (uk : uK B Z vF) {x1 : Int32} {s : uS} {r : Int32}  (h : fn_X12_freeSlot x1 s = some r) : CU l D A B Z 0 mX12_freeSlot s [.ref (B + 1079), .int x1] (s, some (.int r)) := by
  unfold fn_X12_freeSlot at h
  refine cu_of rfl uk.1.1 (Nat.le_of_ble_eq_true rfl) ?_
  show GU _ _ _ _ _ _ _ _ _ 0 [(0, .ref (B + 1079)), (1, .int x1)] []
  refine uu_iconst (v := 4) dX12_freeSlot_0 (by decide) ?_
  refine uu_iload_n dX12_freeSlot_1 rfl (List.mem_of_getElem? (i := 1) rfl) ?_
  refine uu_imul dX12_freeSlot_2 ?_
  refine uu_istore_n dX12_freeSlot_3 rfl (by decide) rfl ?_
  refine uu_iconst (v := 1) dX12_freeSlot_4 (by decide) ?_
  refine uu_istore_n dX12_freeSlot_5 rfl (by decide) rfl ?_
  refine uu_lv [2, 3, 1, 0] (lv' := [(0, .ref (B + 1079)), (1, .int x1), (2, .int ((4 : Int32) * x1)), (3, .int 1)]) rfl ?_
  exact xn_X12_freeSlot_6 uk  _ _ _ _ _ _ h
