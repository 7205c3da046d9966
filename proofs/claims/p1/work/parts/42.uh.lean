abbrev mX8_aheadOfLiteral : hM := (yX8_aheadOfLiteral, cX8_aheadOfLiteral, 2, (some (.int)))
theorem dX8_aheadOfLiteral_120 : decode cX8_aheadOfLiteral 120 = .ok (.aload_n 0, 1) := by decide +kernel
theorem dX8_aheadOfLiteral_121 : decode cX8_aheadOfLiteral 121 = .ok (.iload_n 1, 1) := by decide +kernel
theorem dX8_aheadOfLiteral_122 : decode cX8_aheadOfLiteral 122 = .ok (.invokevirtual 58, 3) := by decide +kernel
theorem dX8_aheadOfLiteral_125 : decode cX8_aheadOfLiteral 125 = .ok (.ireturn, 1) := by decide +kernel
theorem dX8_aheadOfLiteral_105 : decode cX8_aheadOfLiteral 105 = .ok (.aload_n 0, 1) := by decide +kernel
theorem dX8_aheadOfLiteral_106 : decode cX8_aheadOfLiteral 106 = .ok (.getfield 33, 3) := by decide +kernel
theorem dX8_aheadOfLiteral_109 : decode cX8_aheadOfLiteral 109 = .ok (.bipush 8, 2) := by decide +kernel
theorem dX8_aheadOfLiteral_111 : decode cX8_aheadOfLiteral 111 = .ok (.if_icmp .ne 9, 3) := by decide +kernel
theorem dX8_aheadOfLiteral_114 : decode cX8_aheadOfLiteral 114 = .ok (.iload_n 1, 1) := by decide +kernel
theorem dX8_aheadOfLiteral_115 : decode cX8_aheadOfLiteral 115 = .ok (.bipush 10, 2) := by decide +kernel
theorem dX8_aheadOfLiteral_117 : decode cX8_aheadOfLiteral 117 = .ok (.if_icmp .eq 9, 3) := by decide +kernel
theorem dX8_aheadOfLiteral_126 : decode cX8_aheadOfLiteral 126 = .ok (.aload_n 0, 1) := by decide +kernel
theorem dX8_aheadOfLiteral_127 : decode cX8_aheadOfLiteral 127 = .ok (.getfield 78, 3) := by decide +kernel
theorem dX8_aheadOfLiteral_130 : decode cX8_aheadOfLiteral 130 = .ok (.sipush 2000, 3) := by decide +kernel
theorem dX8_aheadOfLiteral_133 : decode cX8_aheadOfLiteral 133 = .ok (.if_icmp .le 5, 3) := by decide +kernel
theorem dX8_aheadOfLiteral_138 : decode cX8_aheadOfLiteral 138 = .ok (.aload_n 0, 1) := by decide +kernel
theorem dX8_aheadOfLiteral_139 : decode cX8_aheadOfLiteral 139 = .ok (.getfield 78, 3) := by decide +kernel
theorem dX8_aheadOfLiteral_142 : decode cX8_aheadOfLiteral 142 = .ok (.ifCond .ne 11, 3) := by decide +kernel
theorem dX8_aheadOfLiteral_153 : decode cX8_aheadOfLiteral 153 = .ok (.aload_n 0, 1) := by decide +kernel
theorem dX8_aheadOfLiteral_154 : decode cX8_aheadOfLiteral 154 = .ok (.bipush 9, 2) := by decide +kernel
theorem dX8_aheadOfLiteral_156 : decode cX8_aheadOfLiteral 156 = .ok (.invokevirtual 68, 3) := by decide +kernel
theorem dX8_aheadOfLiteral_159 : decode cX8_aheadOfLiteral 159 = .ok (.ireturn, 1) := by decide +kernel
theorem dX8_aheadOfLiteral_145 : decode cX8_aheadOfLiteral 145 = .ok (.aload_n 0, 1) := by decide +kernel
theorem dX8_aheadOfLiteral_146 : decode cX8_aheadOfLiteral 146 = .ok (.iconst 2, 1) := by decide +kernel
theorem dX8_aheadOfLiteral_147 : decode cX8_aheadOfLiteral 147 = .ok (.invokevirtual 87, 3) := by decide +kernel
theorem dX8_aheadOfLiteral_150 : decode cX8_aheadOfLiteral 150 = .ok (.goto 9, 3) := by decide +kernel
theorem dX8_aheadOfLiteral_136 : decode cX8_aheadOfLiteral 136 = .ok (.iconst 2, 1) := by decide +kernel
theorem dX8_aheadOfLiteral_137 : decode cX8_aheadOfLiteral 137 = .ok (.ireturn, 1) := by decide +kernel
theorem dX8_aheadOfLiteral_83 : decode cX8_aheadOfLiteral 83 = .ok (.aload_n 0, 1) := by decide +kernel
theorem dX8_aheadOfLiteral_84 : decode cX8_aheadOfLiteral 84 = .ok (.getfield 33, 3) := by decide +kernel
theorem dX8_aheadOfLiteral_87 : decode cX8_aheadOfLiteral 87 = .ok (.bipush 7, 2) := by decide +kernel
theorem dX8_aheadOfLiteral_89 : decode cX8_aheadOfLiteral 89 = .ok (.if_icmp .ne 16, 3) := by decide +kernel
theorem dX8_aheadOfLiteral_92 : decode cX8_aheadOfLiteral 92 = .ok (.iload_n 1, 1) := by decide +kernel
theorem dX8_aheadOfLiteral_93 : decode cX8_aheadOfLiteral 93 = .ok (.bipush 13, 2) := by decide +kernel
theorem dX8_aheadOfLiteral_95 : decode cX8_aheadOfLiteral 95 = .ok (.if_icmp .ne 10, 3) := by decide +kernel
theorem dX8_aheadOfLiteral_98 : decode cX8_aheadOfLiteral 98 = .ok (.aload_n 0, 1) := by decide +kernel
theorem dX8_aheadOfLiteral_99 : decode cX8_aheadOfLiteral 99 = .ok (.bipush 8, 2) := by decide +kernel
theorem dX8_aheadOfLiteral_101 : decode cX8_aheadOfLiteral 101 = .ok (.invokevirtual 68, 3) := by decide +kernel
theorem dX8_aheadOfLiteral_104 : decode cX8_aheadOfLiteral 104 = .ok (.ireturn, 1) := by decide +kernel
theorem dX8_aheadOfLiteral_61 : decode cX8_aheadOfLiteral 61 = .ok (.aload_n 0, 1) := by decide +kernel
theorem dX8_aheadOfLiteral_62 : decode cX8_aheadOfLiteral 62 = .ok (.getfield 33, 3) := by decide +kernel
theorem dX8_aheadOfLiteral_65 : decode cX8_aheadOfLiteral 65 = .ok (.bipush 6, 2) := by decide +kernel
theorem dX8_aheadOfLiteral_67 : decode cX8_aheadOfLiteral 67 = .ok (.if_icmp .ne 16, 3) := by decide +kernel
theorem dX8_aheadOfLiteral_70 : decode cX8_aheadOfLiteral 70 = .ok (.iload_n 1, 1) := by decide +kernel
theorem dX8_aheadOfLiteral_71 : decode cX8_aheadOfLiteral 71 = .ok (.bipush 125, 2) := by decide +kernel
theorem dX8_aheadOfLiteral_73 : decode cX8_aheadOfLiteral 73 = .ok (.if_icmp .ne 10, 3) := by decide +kernel
theorem dX8_aheadOfLiteral_76 : decode cX8_aheadOfLiteral 76 = .ok (.aload_n 0, 1) := by decide +kernel
theorem dX8_aheadOfLiteral_77 : decode cX8_aheadOfLiteral 77 = .ok (.bipush 7, 2) := by decide +kernel
theorem dX8_aheadOfLiteral_79 : decode cX8_aheadOfLiteral 79 = .ok (.invokevirtual 68, 3) := by decide +kernel
theorem dX8_aheadOfLiteral_82 : decode cX8_aheadOfLiteral 82 = .ok (.ireturn, 1) := by decide +kernel
theorem dX8_aheadOfLiteral_33 : decode cX8_aheadOfLiteral 33 = .ok (.aload_n 0, 1) := by decide +kernel
theorem dX8_aheadOfLiteral_34 : decode cX8_aheadOfLiteral 34 = .ok (.getfield 33, 3) := by decide +kernel
theorem dX8_aheadOfLiteral_37 : decode cX8_aheadOfLiteral 37 = .ok (.iconst 5, 1) := by decide +kernel
theorem dX8_aheadOfLiteral_38 : decode cX8_aheadOfLiteral 38 = .ok (.if_icmp .ne 23, 3) := by decide +kernel
theorem dX8_aheadOfLiteral_41 : decode cX8_aheadOfLiteral 41 = .ok (.iload_n 1, 1) := by decide +kernel
theorem dX8_aheadOfLiteral_42 : decode cX8_aheadOfLiteral 42 = .ok (.bipush 43, 2) := by decide +kernel
theorem dX8_aheadOfLiteral_44 : decode cX8_aheadOfLiteral 44 = .ok (.if_icmp .ne 17, 3) := by decide +kernel
theorem dX8_aheadOfLiteral_47 : decode cX8_aheadOfLiteral 47 = .ok (.aload_n 0, 1) := by decide +kernel
theorem dX8_aheadOfLiteral_48 : decode cX8_aheadOfLiteral 48 = .ok (.getfield 81, 3) := by decide +kernel
theorem dX8_aheadOfLiteral_51 : decode cX8_aheadOfLiteral 51 = .ok (.ifCond .le 10, 3) := by decide +kernel
theorem dX8_aheadOfLiteral_54 : decode cX8_aheadOfLiteral 54 = .ok (.aload_n 0, 1) := by decide +kernel
theorem dX8_aheadOfLiteral_55 : decode cX8_aheadOfLiteral 55 = .ok (.bipush 6, 2) := by decide +kernel
theorem dX8_aheadOfLiteral_57 : decode cX8_aheadOfLiteral 57 = .ok (.invokevirtual 68, 3) := by decide +kernel
theorem dX8_aheadOfLiteral_60 : decode cX8_aheadOfLiteral 60 = .ok (.ireturn, 1) := by decide +kernel
theorem dX8_aheadOfLiteral_0 : decode cX8_aheadOfLiteral 0 = .ok (.aload_n 0, 1) := by decide +kernel
theorem dX8_aheadOfLiteral_1 : decode cX8_aheadOfLiteral 1 = .ok (.getfield 33, 3) := by decide +kernel
theorem dX8_aheadOfLiteral_4 : decode cX8_aheadOfLiteral 4 = .ok (.iconst 5, 1) := by decide +kernel
theorem dX8_aheadOfLiteral_5 : decode cX8_aheadOfLiteral 5 = .ok (.if_icmp .ne 28, 3) := by decide +kernel
theorem dX8_aheadOfLiteral_8 : decode cX8_aheadOfLiteral 8 = .ok (.iload_n 1, 1) := by decide +kernel
theorem dX8_aheadOfLiteral_9 : decode cX8_aheadOfLiteral 9 = .ok (.invokestatic 84, 3) := by decide +kernel
theorem dX8_aheadOfLiteral_12 : decode cX8_aheadOfLiteral 12 = .ok (.ifCond .eq 21, 3) := by decide +kernel
theorem dX8_aheadOfLiteral_15 : decode cX8_aheadOfLiteral 15 = .ok (.aload_n 0, 1) := by decide +kernel
theorem dX8_aheadOfLiteral_16 : decode cX8_aheadOfLiteral 16 = .ok (.iload_n 1, 1) := by decide +kernel
theorem dX8_aheadOfLiteral_17 : decode cX8_aheadOfLiteral 17 = .ok (.invokevirtual 100, 3) := by decide +kernel
theorem dX8_aheadOfLiteral_20 : decode cX8_aheadOfLiteral 20 = .ok (.ifCond .eq 7, 3) := by decide +kernel
theorem dX8_aheadOfLiteral_27 : decode cX8_aheadOfLiteral 27 = .ok (.aload_n 0, 1) := by decide +kernel
theorem dX8_aheadOfLiteral_28 : decode cX8_aheadOfLiteral 28 = .ok (.iload_n 1, 1) := by decide +kernel
theorem dX8_aheadOfLiteral_29 : decode cX8_aheadOfLiteral 29 = .ok (.invokevirtual 58, 3) := by decide +kernel
theorem dX8_aheadOfLiteral_32 : decode cX8_aheadOfLiteral 32 = .ok (.ireturn, 1) := by decide +kernel
theorem dX8_aheadOfLiteral_23 : decode cX8_aheadOfLiteral 23 = .ok (.iconst 0, 1) := by decide +kernel
theorem dX8_aheadOfLiteral_24 : decode cX8_aheadOfLiteral 24 = .ok (.goto 8, 3) := by decide +kernel
def fb_X8_aheadOfLiteral_120  (k0 : Nat) (x1 : Int32) (s : uS) : Option (uS × Int32) := (fn_X8_passOver k0 x1 s).bind fun r1 => some (r1.1, r1.2)
set_option maxRecDepth 100000 in
set_option maxHeartbeats 4000000 in
theorem xb_X8_aheadOfLiteral_120 {l : Launch} {D : va_G} {A : Nat → ClassId} {B : Nat} {Z : State → Heap → Prop} {vF : Value} (uk : uK B Z vF)   {k0 : Nat} {x1 : Int32} {s : uS} {r : (uS × Int32)} (hk0 : uSo k0 8) (h : fb_X8_aheadOfLiteral_120  k0 x1 s = some r) : GU l D A B Z mX8_aheadOfLiteral 2 (r.1, some (.int r.2)) s 120 [(0, .ref (B + k0)), (1, .int x1)] [] := by
  unfold fb_X8_aheadOfLiteral_120 at h
  refine uu_aload_n dX8_aheadOfLiteral_120 rfl (List.mem_of_getElem? (i := 0) rfl) ?_
  refine uu_iload_n dX8_aheadOfLiteral_121 rfl (List.mem_of_getElem? (i := 1) rfl) ?_
  obtain ⟨r1, e2, h⟩ := uu_ob h
  refine uu_cv (d1 := 1) (k := k0) (ci := 8) (T := TX8) (N := 8) (As := [.int x1]) (st := []) (st' := [.int r1.2]) (xc_X8_passOver uk hk0 e2) hk0.is (by decide) rfl kX8_passOver lX8_58 sX8_passOver (by decide) (Nat.le_of_ble_eq_true rfl) dX8_aheadOfLiteral_122 rfl ?_
  have hr := Option.some.inj h
  subst hr
  exact uu_iret rfl dX8_aheadOfLiteral_125
def fb_X8_aheadOfLiteral_105  (k0 : Nat) (x1 : Int32) (s : uS) : Option (uS × Int32) := if (s.I k0 5) = 8 then (if x1 = 10 then (if (s.I k0 1) ≤ 2000 then (if (s.I k0 1) = 0 then ((fn_X8_closePart k0 2 s).bind fun r7 => some (r7.1, r7.2)) else ((fn_X8_go k0 9 s).bind fun r5 => some (r5.1, r5.2))) else (some (s, (2 : Int32)))) else (fb_X8_aheadOfLiteral_120 k0 x1 s)) else (fb_X8_aheadOfLiteral_120 k0 x1 s)
set_option maxRecDepth 100000 in
set_option maxHeartbeats 4000000 in
theorem xb_X8_aheadOfLiteral_105 {l : Launch} {D : va_G} {A : Nat → ClassId} {B : Nat} {Z : State → Heap → Prop} {vF : Value} (uk : uK B Z vF)   {k0 : Nat} {x1 : Int32} {s : uS} {r : (uS × Int32)} (hk0 : uSo k0 8) (h : fb_X8_aheadOfLiteral_105  k0 x1 s = some r) : GU l D A B Z mX8_aheadOfLiteral 2 (r.1, some (.int r.2)) s 105 [(0, .ref (B + k0)), (1, .int x1)] [] := by
  unfold fb_X8_aheadOfLiteral_105 at h
  refine uu_aload_n dX8_aheadOfLiteral_105 rfl (List.mem_of_getElem? (i := 0) rfl) ?_
  refine uu_geti (ci := 8) (N := 8) fX8_33 (by decide) hk0.is (by decide) (by decide) dX8_aheadOfLiteral_106 ?_
  refine uu_bipush (v := 8) dX8_aheadOfLiteral_109 (by decide) ?_
  refine uu_icmp_ne (tgt := 120) dX8_aheadOfLiteral_111 (by decide) (fun c1 => ?_) (fun c1 => ?_)
  · replace h := uu_neg c1 h
    exact xb_X8_aheadOfLiteral_120 uk hk0 h
  · replace h := uu_pos c1 h
    refine uu_iload_n dX8_aheadOfLiteral_114 rfl (List.mem_of_getElem? (i := 1) rfl) ?_
    refine uu_bipush (v := 10) dX8_aheadOfLiteral_115 (by decide) ?_
    refine uu_icmp_eq (tgt := 126) dX8_aheadOfLiteral_117 (by decide) (fun c2 => ?_) (fun c2 => ?_)
    · replace h := uu_pos c2 h
      refine uu_aload_n dX8_aheadOfLiteral_126 rfl (List.mem_of_getElem? (i := 0) rfl) ?_
      refine uu_geti (ci := 8) (N := 8) fX8_78 (by decide) hk0.is (by decide) (by decide) dX8_aheadOfLiteral_127 ?_
      refine uu_sipush (v := 2000) dX8_aheadOfLiteral_130 (by decide) ?_
      refine uu_icmp_le (tgt := 138) dX8_aheadOfLiteral_133 (by decide) (fun c3 => ?_) (fun c3 => ?_)
      · replace h := uu_pos c3 h
        refine uu_aload_n dX8_aheadOfLiteral_138 rfl (List.mem_of_getElem? (i := 0) rfl) ?_
        refine uu_geti (ci := 8) (N := 8) fX8_78 (by decide) hk0.is (by decide) (by decide) dX8_aheadOfLiteral_139 ?_
        refine uu_if_ne (tgt := 153) dX8_aheadOfLiteral_142 (by decide) (fun c4 => ?_) (fun c4 => ?_)
        · replace h := uu_neg c4 h
          refine uu_aload_n dX8_aheadOfLiteral_153 rfl (List.mem_of_getElem? (i := 0) rfl) ?_
          refine uu_bipush (v := 9) dX8_aheadOfLiteral_154 (by decide) ?_
          obtain ⟨r5, e6, h⟩ := uu_ob h
          refine uu_cv (d1 := 0) (k := k0) (ci := 8) (T := TX8) (N := 8) (As := [.int 9]) (st := []) (st' := [.int r5.2]) (xc_X8_go uk hk0 e6) hk0.is (by decide) rfl kX8_go lX8_68 sX8_go (by decide) (Nat.le_of_ble_eq_true rfl) dX8_aheadOfLiteral_156 rfl ?_
          have hr := Option.some.inj h
          subst hr
          exact uu_iret rfl dX8_aheadOfLiteral_159
        · replace h := uu_pos c4 h
          refine uu_aload_n dX8_aheadOfLiteral_145 rfl (List.mem_of_getElem? (i := 0) rfl) ?_
          refine uu_iconst (v := 2) dX8_aheadOfLiteral_146 (by decide) ?_
          obtain ⟨r7, e8, h⟩ := uu_ob h
          refine uu_cv (d1 := 1) (k := k0) (ci := 8) (T := TX8) (N := 8) (As := [.int 2]) (st := []) (st' := [.int r7.2]) (xc_X8_closePart uk hk0 e8) hk0.is (by decide) rfl kX8_closePart lX8_87 sX8_closePart (by decide) (Nat.le_of_ble_eq_true rfl) dX8_aheadOfLiteral_147 rfl ?_
          refine uu_goto (tgt := 159) dX8_aheadOfLiteral_150 (by decide) ?_
          have hr := Option.some.inj h
          subst hr
          exact uu_iret rfl dX8_aheadOfLiteral_159
      · replace h := uu_neg c3 h
        refine uu_iconst (v := 2) dX8_aheadOfLiteral_136 (by decide) ?_
        have hr := Option.some.inj h
        subst hr
        exact uu_iret rfl dX8_aheadOfLiteral_137
    · replace h := uu_neg c2 h
      exact xb_X8_aheadOfLiteral_120 uk hk0 h
def fb_X8_aheadOfLiteral_83  (k0 : Nat) (x1 : Int32) (s : uS) : Option (uS × Int32) := if (s.I k0 5) = 7 then (if x1 = 13 then ((fn_X8_go k0 8 s).bind fun r3 => some (r3.1, r3.2)) else (fb_X8_aheadOfLiteral_105 k0 x1 s)) else (fb_X8_aheadOfLiteral_105 k0 x1 s)
set_option maxRecDepth 100000 in
set_option maxHeartbeats 4000000 in
theorem xb_X8_aheadOfLiteral_83 {l : Launch} {D : va_G} {A : Nat → ClassId} {B : Nat} {Z : State → Heap → Prop} {vF : Value} (uk : uK B Z vF)   {k0 : Nat} {x1 : Int32} {s : uS} {r : (uS × Int32)} (hk0 : uSo k0 8) (h : fb_X8_aheadOfLiteral_83  k0 x1 s = some r) : GU l D A B Z mX8_aheadOfLiteral 2 (r.1, some (.int r.2)) s 83 [(0, .ref (B + k0)), (1, .int x1)] [] := by
  unfold fb_X8_aheadOfLiteral_83 at h
  refine uu_aload_n dX8_aheadOfLiteral_83 rfl (List.mem_of_getElem? (i := 0) rfl) ?_
  refine uu_geti (ci := 8) (N := 8) fX8_33 (by decide) hk0.is (by decide) (by decide) dX8_aheadOfLiteral_84 ?_
  refine uu_bipush (v := 7) dX8_aheadOfLiteral_87 (by decide) ?_
  refine uu_icmp_ne (tgt := 105) dX8_aheadOfLiteral_89 (by decide) (fun c1 => ?_) (fun c1 => ?_)
  · replace h := uu_neg c1 h
    exact xb_X8_aheadOfLiteral_105 uk hk0 h
  · replace h := uu_pos c1 h
    refine uu_iload_n dX8_aheadOfLiteral_92 rfl (List.mem_of_getElem? (i := 1) rfl) ?_
    refine uu_bipush (v := 13) dX8_aheadOfLiteral_93 (by decide) ?_
    refine uu_icmp_ne (tgt := 105) dX8_aheadOfLiteral_95 (by decide) (fun c2 => ?_) (fun c2 => ?_)
    · replace h := uu_neg c2 h
      exact xb_X8_aheadOfLiteral_105 uk hk0 h
    · replace h := uu_pos c2 h
      refine uu_aload_n dX8_aheadOfLiteral_98 rfl (List.mem_of_getElem? (i := 0) rfl) ?_
      refine uu_bipush (v := 8) dX8_aheadOfLiteral_99 (by decide) ?_
      obtain ⟨r3, e4, h⟩ := uu_ob h
      refine uu_cv (d1 := 0) (k := k0) (ci := 8) (T := TX8) (N := 8) (As := [.int 8]) (st := []) (st' := [.int r3.2]) (xc_X8_go uk hk0 e4) hk0.is (by decide) rfl kX8_go lX8_68 sX8_go (by decide) (Nat.le_of_ble_eq_true rfl) dX8_aheadOfLiteral_101 rfl ?_
      have hr := Option.some.inj h
      subst hr
      exact uu_iret rfl dX8_aheadOfLiteral_104
def fb_X8_aheadOfLiteral_61  (k0 : Nat) (x1 : Int32) (s : uS) : Option (uS × Int32) := if (s.I k0 5) = 6 then (if x1 = 125 then ((fn_X8_go k0 7 s).bind fun r3 => some (r3.1, r3.2)) else (fb_X8_aheadOfLiteral_83 k0 x1 s)) else (fb_X8_aheadOfLiteral_83 k0 x1 s)
set_option maxRecDepth 100000 in
set_option maxHeartbeats 4000000 in
theorem xb_X8_aheadOfLiteral_61 {l : Launch} {D : va_G} {A : Nat → ClassId} {B : Nat} {Z : State → Heap → Prop} {vF : Value} (uk : uK B Z vF)   {k0 : Nat} {x1 : Int32} {s : uS} {r : (uS × Int32)} (hk0 : uSo k0 8) (h : fb_X8_aheadOfLiteral_61  k0 x1 s = some r) : GU l D A B Z mX8_aheadOfLiteral 2 (r.1, some (.int r.2)) s 61 [(0, .ref (B + k0)), (1, .int x1)] [] := by
  unfold fb_X8_aheadOfLiteral_61 at h
  refine uu_aload_n dX8_aheadOfLiteral_61 rfl (List.mem_of_getElem? (i := 0) rfl) ?_
  refine uu_geti (ci := 8) (N := 8) fX8_33 (by decide) hk0.is (by decide) (by decide) dX8_aheadOfLiteral_62 ?_
  refine uu_bipush (v := 6) dX8_aheadOfLiteral_65 (by decide) ?_
  refine uu_icmp_ne (tgt := 83) dX8_aheadOfLiteral_67 (by decide) (fun c1 => ?_) (fun c1 => ?_)
  · replace h := uu_neg c1 h
    exact xb_X8_aheadOfLiteral_83 uk hk0 h
  · replace h := uu_pos c1 h
    refine uu_iload_n dX8_aheadOfLiteral_70 rfl (List.mem_of_getElem? (i := 1) rfl) ?_
    refine uu_bipush (v := 125) dX8_aheadOfLiteral_71 (by decide) ?_
    refine uu_icmp_ne (tgt := 83) dX8_aheadOfLiteral_73 (by decide) (fun c2 => ?_) (fun c2 => ?_)
    · replace h := uu_neg c2 h
      exact xb_X8_aheadOfLiteral_83 uk hk0 h
    · replace h := uu_pos c2 h
      refine uu_aload_n dX8_aheadOfLiteral_76 rfl (List.mem_of_getElem? (i := 0) rfl) ?_
      refine uu_bipush (v := 7) dX8_aheadOfLiteral_77 (by decide) ?_
      obtain ⟨r3, e4, h⟩ := uu_ob h
      refine uu_cv (d1 := 0) (k := k0) (ci := 8) (T := TX8) (N := 8) (As := [.int 7]) (st := []) (st' := [.int r3.2]) (xc_X8_go uk hk0 e4) hk0.is (by decide) rfl kX8_go lX8_68 sX8_go (by decide) (Nat.le_of_ble_eq_true rfl) dX8_aheadOfLiteral_79 rfl ?_
      have hr := Option.some.inj h
      subst hr
      exact uu_iret rfl dX8_aheadOfLiteral_82
def fb_X8_aheadOfLiteral_33  (k0 : Nat) (x1 : Int32) (s : uS) : Option (uS × Int32) := if (s.I k0 5) = 5 then (if x1 = 43 then (if (s.I k0 6) ≤ 0 then (fb_X8_aheadOfLiteral_61 k0 x1 s) else ((fn_X8_go k0 6 s).bind fun r4 => some (r4.1, r4.2))) else (fb_X8_aheadOfLiteral_61 k0 x1 s)) else (fb_X8_aheadOfLiteral_61 k0 x1 s)
set_option maxRecDepth 100000 in
set_option maxHeartbeats 4000000 in
theorem xb_X8_aheadOfLiteral_33 {l : Launch} {D : va_G} {A : Nat → ClassId} {B : Nat} {Z : State → Heap → Prop} {vF : Value} (uk : uK B Z vF)   {k0 : Nat} {x1 : Int32} {s : uS} {r : (uS × Int32)} (hk0 : uSo k0 8) (h : fb_X8_aheadOfLiteral_33  k0 x1 s = some r) : GU l D A B Z mX8_aheadOfLiteral 2 (r.1, some (.int r.2)) s 33 [(0, .ref (B + k0)), (1, .int x1)] [] := by
  unfold fb_X8_aheadOfLiteral_33 at h
  refine uu_aload_n dX8_aheadOfLiteral_33 rfl (List.mem_of_getElem? (i := 0) rfl) ?_
  refine uu_geti (ci := 8) (N := 8) fX8_33 (by decide) hk0.is (by decide) (by decide) dX8_aheadOfLiteral_34 ?_
  refine uu_iconst (v := 5) dX8_aheadOfLiteral_37 (by decide) ?_
  refine uu_icmp_ne (tgt := 61) dX8_aheadOfLiteral_38 (by decide) (fun c1 => ?_) (fun c1 => ?_)
  · replace h := uu_neg c1 h
    exact xb_X8_aheadOfLiteral_61 uk hk0 h
  · replace h := uu_pos c1 h
    refine uu_iload_n dX8_aheadOfLiteral_41 rfl (List.mem_of_getElem? (i := 1) rfl) ?_
    refine uu_bipush (v := 43) dX8_aheadOfLiteral_42 (by decide) ?_
    refine uu_icmp_ne (tgt := 61) dX8_aheadOfLiteral_44 (by decide) (fun c2 => ?_) (fun c2 => ?_)
    · replace h := uu_neg c2 h
      exact xb_X8_aheadOfLiteral_61 uk hk0 h
    · replace h := uu_pos c2 h
      refine uu_aload_n dX8_aheadOfLiteral_47 rfl (List.mem_of_getElem? (i := 0) rfl) ?_
      refine uu_geti (ci := 8) (N := 8) fX8_81 (by decide) hk0.is (by decide) (by decide) dX8_aheadOfLiteral_48 ?_
      refine uu_if_le (tgt := 61) dX8_aheadOfLiteral_51 (by decide) (fun c3 => ?_) (fun c3 => ?_)
      · replace h := uu_pos c3 h
        exact xb_X8_aheadOfLiteral_61 uk hk0 h
      · replace h := uu_neg c3 h
        refine uu_aload_n dX8_aheadOfLiteral_54 rfl (List.mem_of_getElem? (i := 0) rfl) ?_
        refine uu_bipush (v := 6) dX8_aheadOfLiteral_55 (by decide) ?_
        obtain ⟨r4, e5, h⟩ := uu_ob h
        refine uu_cv (d1 := 0) (k := k0) (ci := 8) (T := TX8) (N := 8) (As := [.int 6]) (st := []) (st' := [.int r4.2]) (xc_X8_go uk hk0 e5) hk0.is (by decide) rfl kX8_go lX8_68 sX8_go (by decide) (Nat.le_of_ble_eq_true rfl) dX8_aheadOfLiteral_57 rfl ?_
        have hr := Option.some.inj h
        subst hr
        exact uu_iret rfl dX8_aheadOfLiteral_60
def fn_X8_aheadOfLiteral (k0 : Nat) (x1 : Int32) (s : uS) : Option (uS × Int32) := if (s.I k0 5) = 5 then ((fn_X9_isDigit x1 s).bind fun v2 => if v2 = true then ((fn_X8_addDigit k0 x1 s).bind fun r5 => if r5.2 = true then (some (r5.1, (0 : Int32))) else ((fn_X8_passOver k0 x1 r5.1).bind fun r8 => some (r8.1, r8.2))) else (fb_X8_aheadOfLiteral_33 k0 x1 s)) else (fb_X8_aheadOfLiteral_33 k0 x1 s)
set_option maxRecDepth 100000 in
set_option maxHeartbeats 4000000 in
theorem xc_X8_aheadOfLiteral {l : Launch} {D : va_G} {A : Nat → ClassId} {B : Nat} {Z : State → Heap → Prop} {vF : Value} (uk : uK B Z vF) {k0 : Nat} {x1 : Int32} {s : uS} {r : (uS × Int32)} (hk0 : uSo k0 8) (h : fn_X8_aheadOfLiteral k0 x1 s = some r) : CU l D A B Z 2 mX8_aheadOfLiteral s [.ref (B + k0), .int x1] (r.1, some (.int r.2)) := by
  unfold fn_X8_aheadOfLiteral at h
  refine cu_of rfl uk.1.1 (Nat.le_of_ble_eq_true rfl) ?_
  show GU _ _ _ _ _ _ _ _ _ 0 [(0, .ref (B + k0)), (1, .int x1)] []
  refine uu_aload_n dX8_aheadOfLiteral_0 rfl (List.mem_of_getElem? (i := 0) rfl) ?_
  refine uu_geti (ci := 8) (N := 8) fX8_33 (by decide) hk0.is (by decide) (by decide) dX8_aheadOfLiteral_1 ?_
  refine uu_iconst (v := 5) dX8_aheadOfLiteral_4 (by decide) ?_
  refine uu_icmp_ne (tgt := 33) dX8_aheadOfLiteral_5 (by decide) (fun c1 => ?_) (fun c1 => ?_)
  · replace h := uu_neg c1 h
    exact xb_X8_aheadOfLiteral_33 uk hk0 h
  · replace h := uu_pos c1 h
    refine uu_iload_n dX8_aheadOfLiteral_8 rfl (List.mem_of_getElem? (i := 1) rfl) ?_
    obtain ⟨v2, e3, h⟩ := uu_ob h
    refine uu_cs (d1 := 0) (As := [.int x1]) (st := []) (st' := [.int (bI v2)]) (xc_X9_isDigit uk  e3) kX9_isDigit lX8_84 sX9_isDigit (by decide) (Nat.le_of_ble_eq_true rfl) dX8_aheadOfLiteral_9 rfl ?_
    refine uu_ifb_eq (tgt := 33) dX8_aheadOfLiteral_12 (by decide) (fun c4 => ?_) (fun c4 => ?_)
    · replace h := uu_neg c4 h
      exact xb_X8_aheadOfLiteral_33 uk hk0 h
    · replace h := uu_pos c4 h
      refine uu_aload_n dX8_aheadOfLiteral_15 rfl (List.mem_of_getElem? (i := 0) rfl) ?_
      refine uu_iload_n dX8_aheadOfLiteral_16 rfl (List.mem_of_getElem? (i := 1) rfl) ?_
      obtain ⟨r5, e6, h⟩ := uu_ob h
      refine uu_cv (d1 := 0) (k := k0) (ci := 8) (T := TX8) (N := 8) (As := [.int x1]) (st := []) (st' := [.int (bI r5.2)]) (xc_X8_addDigit uk hk0 e6) hk0.is (by decide) rfl kX8_addDigit lX8_100 sX8_addDigit (by decide) (Nat.le_of_ble_eq_true rfl) dX8_aheadOfLiteral_17 rfl ?_
      refine uu_ifb_eq (tgt := 27) dX8_aheadOfLiteral_20 (by decide) (fun c7 => ?_) (fun c7 => ?_)
      · replace h := uu_neg c7 h
        refine uu_aload_n dX8_aheadOfLiteral_27 rfl (List.mem_of_getElem? (i := 0) rfl) ?_
        refine uu_iload_n dX8_aheadOfLiteral_28 rfl (List.mem_of_getElem? (i := 1) rfl) ?_
        obtain ⟨r8, e9, h⟩ := uu_ob h
        refine uu_cv (d1 := 1) (k := k0) (ci := 8) (T := TX8) (N := 8) (As := [.int x1]) (st := []) (st' := [.int r8.2]) (xc_X8_passOver uk hk0 e9) hk0.is (by decide) rfl kX8_passOver lX8_58 sX8_passOver (by decide) (Nat.le_of_ble_eq_true rfl) dX8_aheadOfLiteral_29 rfl ?_
        have hr := Option.some.inj h
        subst hr
        exact uu_iret rfl dX8_aheadOfLiteral_32
      · replace h := uu_pos c7 h
        refine uu_iconst (v := 0) dX8_aheadOfLiteral_23 (by decide) ?_
        refine uu_goto (tgt := 32) dX8_aheadOfLiteral_24 (by decide) ?_
        have hr := Option.some.inj h
        subst hr
        exact uu_iret rfl dX8_aheadOfLiteral_32
abbrev mX8_inLiteral : hM := (yX8_inLiteral, cX8_inLiteral, 2, (some (.int)))
theorem dX8_inLiteral_0 : decode cX8_inLiteral 0 = .ok (.aload_n 0, 1) := by decide +kernel
theorem dX8_inLiteral_1 : decode cX8_inLiteral 1 = .ok (.getfield 14, 3) := by decide +kernel
theorem dX8_inLiteral_4 : decode cX8_inLiteral 4 = .ok (.iload_n 1, 1) := by decide +kernel
theorem dX8_inLiteral_5 : decode cX8_inLiteral 5 = .ok (.invokevirtual 96, 3) := by decide +kernel
theorem dX8_inLiteral_8 : decode cX8_inLiteral 8 = .ok (.aload_n 0, 1) := by decide +kernel
theorem dX8_inLiteral_9 : decode cX8_inLiteral 9 = .ok (.getfield 14, 3) := by decide +kernel
theorem dX8_inLiteral_12 : decode cX8_inLiteral 12 = .ok (.getfield 90, 3) := by decide +kernel
theorem dX8_inLiteral_15 : decode cX8_inLiteral 15 = .ok (.aload_n 0, 1) := by decide +kernel
theorem dX8_inLiteral_16 : decode cX8_inLiteral 16 = .ok (.getfield 14, 3) := by decide +kernel
theorem dX8_inLiteral_19 : decode cX8_inLiteral 19 = .ok (.getfield 93, 3) := by decide +kernel
theorem dX8_inLiteral_22 : decode cX8_inLiteral 22 = .ok (.isub, 1) := by decide +kernel
theorem dX8_inLiteral_23 : decode cX8_inLiteral 23 = .ok (.aload_n 0, 1) := by decide +kernel
theorem dX8_inLiteral_24 : decode cX8_inLiteral 24 = .ok (.getfield 78, 3) := by decide +kernel
theorem dX8_inLiteral_27 : decode cX8_inLiteral 27 = .ok (.if_icmp .lt 11, 3) := by decide +kernel
theorem dX8_inLiteral_38 : decode cX8_inLiteral 38 = .ok (.iconst 0, 1) := by decide +kernel
theorem dX8_inLiteral_39 : decode cX8_inLiteral 39 = .ok (.ireturn, 1) := by decide +kernel
theorem dX8_inLiteral_30 : decode cX8_inLiteral 30 = .ok (.aload_n 0, 1) := by decide +kernel
theorem dX8_inLiteral_31 : decode cX8_inLiteral 31 = .ok (.iconst 2, 1) := by decide +kernel
theorem dX8_inLiteral_32 : decode cX8_inLiteral 32 = .ok (.invokevirtual 87, 3) := by decide +kernel
theorem dX8_inLiteral_35 : decode cX8_inLiteral 35 = .ok (.goto 4, 3) := by decide +kernel
def fn_X8_inLiteral (k0 : Nat) (x1 : Int32) (s : uS) : Option (uS × Int32) := (fn_X9_put (k0 + 1) x1 s).bind fun s1 => if ((s1.I (k0 + 1) 5) - (s1.I (k0 + 1) 4)) < (s1.I k0 1) then (some (s1, (0 : Int32))) else ((fn_X8_closePart k0 2 s1).bind fun r4 => some (r4.1, r4.2))
set_option maxRecDepth 100000 in
set_option maxHeartbeats 4000000 in
theorem xc_X8_inLiteral {l : Launch} {D : va_G} {A : Nat → ClassId} {B : Nat} {Z : State → Heap → Prop} {vF : Value} (uk : uK B Z vF) {k0 : Nat} {x1 : Int32} {s : uS} {r : (uS × Int32)} (hk0 : uSo k0 8) (h : fn_X8_inLiteral k0 x1 s = some r) : CU l D A B Z 2 mX8_inLiteral s [.ref (B + k0), .int x1] (r.1, some (.int r.2)) := by
  unfold fn_X8_inLiteral at h
  refine cu_of rfl uk.1.1 (Nat.le_of_ble_eq_true rfl) ?_
  show GU _ _ _ _ _ _ _ _ _ 0 [(0, .ref (B + k0)), (1, .int x1)] []
  refine uu_aload_n dX8_inLiteral_0 rfl (List.mem_of_getElem? (i := 0) rfl) ?_
  refine uu_getc (ci := 8) (N := 8) fX8_14 (by decide) hk0.is (by decide) (c := 1) (by decide) (k2 := k0 + 1) rfl dX8_inLiteral_1 ?_
  refine uu_iload_n dX8_inLiteral_4 rfl (List.mem_of_getElem? (i := 1) rfl) ?_
  obtain ⟨s1, e2, h⟩ := uu_ob h
  refine uu_cv (d1 := 0) (k := k0 + 1) (ci := 9) (T := TX9) (N := 6) (As := [.int x1]) (st := []) (st' := []) (xc_X9_put uk (so_parts hk0) e2) (so_parts hk0).is (by decide) rfl kX9_put lX8_96 sX9_put (by decide) (Nat.le_of_ble_eq_true rfl) dX8_inLiteral_5 rfl ?_
  refine uu_aload_n dX8_inLiteral_8 rfl (List.mem_of_getElem? (i := 0) rfl) ?_
  refine uu_getc (ci := 8) (N := 8) fX8_14 (by decide) hk0.is (by decide) (c := 1) (by decide) (k2 := k0 + 1) rfl dX8_inLiteral_9 ?_
  refine uu_geti (ci := 9) (N := 6) fX8_90 (by decide) (so_parts hk0).is (by decide) (by decide) dX8_inLiteral_12 ?_
  refine uu_aload_n dX8_inLiteral_15 rfl (List.mem_of_getElem? (i := 0) rfl) ?_
  refine uu_getc (ci := 8) (N := 8) fX8_14 (by decide) hk0.is (by decide) (c := 1) (by decide) (k2 := k0 + 1) rfl dX8_inLiteral_16 ?_
  refine uu_geti (ci := 9) (N := 6) fX8_93 (by decide) (so_parts hk0).is (by decide) (by decide) dX8_inLiteral_19 ?_
  refine uu_isub dX8_inLiteral_22 ?_
  refine uu_aload_n dX8_inLiteral_23 rfl (List.mem_of_getElem? (i := 0) rfl) ?_
  refine uu_geti (ci := 8) (N := 8) fX8_78 (by decide) hk0.is (by decide) (by decide) dX8_inLiteral_24 ?_
  refine uu_icmp_lt (tgt := 38) dX8_inLiteral_27 (by decide) (fun c3 => ?_) (fun c3 => ?_)
  · replace h := uu_pos c3 h
    refine uu_iconst (v := 0) dX8_inLiteral_38 (by decide) ?_
    have hr := Option.some.inj h
    subst hr
    exact uu_iret rfl dX8_inLiteral_39
  · replace h := uu_neg c3 h
    refine uu_aload_n dX8_inLiteral_30 rfl (List.mem_of_getElem? (i := 0) rfl) ?_
    refine uu_iconst (v := 2) dX8_inLiteral_31 (by decide) ?_
    obtain ⟨r4, e5, h⟩ := uu_ob h
    refine uu_cv (d1 := 1) (k := k0) (ci := 8) (T := TX8) (N := 8) (As := [.int 2]) (st := []) (st' := [.int r4.2]) (xc_X8_closePart uk hk0 e5) hk0.is (by decide) rfl kX8_closePart lX8_87 sX8_closePart (by decide) (Nat.le_of_ble_eq_true rfl) dX8_inLiteral_32 rfl ?_
    refine uu_goto (tgt := 39) dX8_inLiteral_35 (by decide) ?_
    have hr := Option.some.inj h
    subst hr
    exact uu_iret rfl dX8_inLiteral_39
abbrev mX8_passingOver : hM := (yX8_passingOver, cX8_passingOver, 2, (some (.int)))
theorem dX8_passingOver_15 : decode cX8_passingOver 15 = .ok (.aload_n 0, 1) := by decide +kernel
theorem dX8_passingOver_16 : decode cX8_passingOver 16 = .ok (.iload_n 1, 1) := by decide +kernel
theorem dX8_passingOver_17 : decode cX8_passingOver 17 = .ok (.bipush 13, 2) := by decide +kernel
theorem dX8_passingOver_19 : decode cX8_passingOver 19 = .ok (.if_icmp .ne 7, 3) := by decide +kernel
theorem dX8_passingOver_26 : decode cX8_passingOver 26 = .ok (.iconst 0, 1) := by decide +kernel
theorem dX8_passingOver_27 : decode cX8_passingOver 27 = .ok (.putfield 64, 3) := by decide +kernel
theorem dX8_passingOver_30 : decode cX8_passingOver 30 = .ok (.iconst 0, 1) := by decide +kernel
theorem dX8_passingOver_31 : decode cX8_passingOver 31 = .ok (.ireturn, 1) := by decide +kernel
theorem dX8_passingOver_22 : decode cX8_passingOver 22 = .ok (.iconst 1, 1) := by decide +kernel
theorem dX8_passingOver_23 : decode cX8_passingOver 23 = .ok (.goto 4, 3) := by decide +kernel
theorem dX8_passingOver_0 : decode cX8_passingOver 0 = .ok (.iload_n 1, 1) := by decide +kernel
theorem dX8_passingOver_1 : decode cX8_passingOver 1 = .ok (.bipush 10, 2) := by decide +kernel
theorem dX8_passingOver_3 : decode cX8_passingOver 3 = .ok (.if_icmp .ne 12, 3) := by decide +kernel
theorem dX8_passingOver_6 : decode cX8_passingOver 6 = .ok (.aload_n 0, 1) := by decide +kernel
theorem dX8_passingOver_7 : decode cX8_passingOver 7 = .ok (.getfield 64, 3) := by decide +kernel
theorem dX8_passingOver_10 : decode cX8_passingOver 10 = .ok (.ifCond .eq 5, 3) := by decide +kernel
theorem dX8_passingOver_13 : decode cX8_passingOver 13 = .ok (.iconst 2, 1) := by decide +kernel
theorem dX8_passingOver_14 : decode cX8_passingOver 14 = .ok (.ireturn, 1) := by decide +kernel
def fb_X8_passingOver_15  (k0 : Nat) (x1 : Int32) (s : uS) : Option (uS × Int32) := if x1 = 13 then (some (wI s k0 7 1, (0 : Int32))) else (some (wI s k0 7 0, (0 : Int32)))
set_option maxRecDepth 100000 in
set_option maxHeartbeats 4000000 in
theorem xb_X8_passingOver_15 {l : Launch} {D : va_G} {A : Nat → ClassId} {B : Nat} {Z : State → Heap → Prop} {vF : Value} (uk : uK B Z vF)   {k0 : Nat} {x1 : Int32} {s : uS} {r : (uS × Int32)} (hk0 : uSo k0 8) (h : fb_X8_passingOver_15  k0 x1 s = some r) : GU l D A B Z mX8_passingOver 0 (r.1, some (.int r.2)) s 15 [(0, .ref (B + k0)), (1, .int x1)] [] := by
  unfold fb_X8_passingOver_15 at h
  refine uu_aload_n dX8_passingOver_15 rfl (List.mem_of_getElem? (i := 0) rfl) ?_
  refine uu_iload_n dX8_passingOver_16 rfl (List.mem_of_getElem? (i := 1) rfl) ?_
  refine uu_bipush (v := 13) dX8_passingOver_17 (by decide) ?_
  refine uu_icmp_ne (tgt := 26) dX8_passingOver_19 (by decide) (fun c1 => ?_) (fun c1 => ?_)
  · replace h := uu_neg c1 h
    refine uu_iconst (v := 0) dX8_passingOver_26 (by decide) ?_
    refine uu_puti (ft := .boolean) (ci := 8) (N := 8) fX8_64 ptX8 (Or.inl rfl) (by decide) hk0.is (by decide) (by decide) (by decide +kernel) rfl rfl dX8_passingOver_27 ?_
    refine uu_iconst (v := 0) dX8_passingOver_30 (by decide) ?_
    have hr := Option.some.inj h
    subst hr
    exact uu_iret rfl dX8_passingOver_31
  · replace h := uu_pos c1 h
    refine uu_iconst (v := 1) dX8_passingOver_22 (by decide) ?_
    refine uu_goto (tgt := 27) dX8_passingOver_23 (by decide) ?_
    refine uu_puti (ft := .boolean) (ci := 8) (N := 8) fX8_64 ptX8 (Or.inl rfl) (by decide) hk0.is (by decide) (by decide) (by decide +kernel) rfl rfl dX8_passingOver_27 ?_
    refine uu_iconst (v := 0) dX8_passingOver_30 (by decide) ?_
    have hr := Option.some.inj h
    subst hr
    exact uu_iret rfl dX8_passingOver_31
def fn_X8_passingOver (k0 : Nat) (x1 : Int32) (s : uS) : Option (uS × Int32) := if x1 = 10 then (if (s.I k0 7) = 0 then (fb_X8_passingOver_15 k0 x1 s) else (some (s, (2 : Int32)))) else (fb_X8_passingOver_15 k0 x1 s)
set_option maxRecDepth 100000 in
set_option maxHeartbeats 4000000 in
theorem xc_X8_passingOver {l : Launch} {D : va_G} {A : Nat → ClassId} {B : Nat} {Z : State → Heap → Prop} {vF : Value} (uk : uK B Z vF) {k0 : Nat} {x1 : Int32} {s : uS} {r : (uS × Int32)} (hk0 : uSo k0 8) (h : fn_X8_passingOver k0 x1 s = some r) : CU l D A B Z 0 mX8_passingOver s [.ref (B + k0), .int x1] (r.1, some (.int r.2)) := by
  unfold fn_X8_passingOver at h
  refine cu_of rfl uk.1.1 (Nat.le_of_ble_eq_true rfl) ?_
  show GU _ _ _ _ _ _ _ _ _ 0 [(0, .ref (B + k0)), (1, .int x1)] []
  refine uu_iload_n dX8_passingOver_0 rfl (List.mem_of_getElem? (i := 1) rfl) ?_
  refine uu_bipush (v := 10) dX8_passingOver_1 (by decide) ?_
  refine uu_icmp_ne (tgt := 15) dX8_passingOver_3 (by decide) (fun c1 => ?_) (fun c1 => ?_)
  · replace h := uu_neg c1 h
    exact xb_X8_passingOver_15 uk hk0 h
  · replace h := uu_pos c1 h
    refine uu_aload_n dX8_passingOver_6 rfl (List.mem_of_getElem? (i := 0) rfl) ?_
    refine uu_geti (ci := 8) (N := 8) fX8_64 (by decide) hk0.is (by decide) (by decide) dX8_passingOver_7 ?_
    refine uu_if_eq (tgt := 15) dX8_passingOver_10 (by decide) (fun c2 => ?_) (fun c2 => ?_)
    · replace h := uu_pos c2 h
      exact xb_X8_passingOver_15 uk hk0 h
    · replace h := uu_neg c2 h
      refine uu_iconst (v := 2) dX8_passingOver_13 (by decide) ?_
      have hr := Option.some.inj h
      subst hr
      exact uu_iret rfl dX8_passingOver_14
theorem dX8_take_0 : decode cX8_take 0 = .ok (.aload_n 0, 1) := by decide +kernel
theorem dX8_take_1 : decode cX8_take 1 = .ok (.getfield 33, 3) := by decide +kernel
theorem dX8_take_4 : decode cX8_take 4 = .ok (.tableswitch 122 0 11 #[64, 70, 76, 76, 82, 88, 88, 88, 88, 94, 100, 106], 64) := by decide +kernel
theorem dX8_take_68 : decode cX8_take 68 = .ok (.aload_n 0, 1) := by decide +kernel
theorem dX8_take_69 : decode cX8_take 69 = .ok (.iload_n 1, 1) := by decide +kernel
theorem kX8_inWord : h_ml mX8_inWord 1 := ⟨h_t6 225 rfl rfl, h_t1 7 rfl rfl, ⟨by decide, by decide, by decide +kernel⟩, by decide⟩
theorem lX8_36 : Cond.methodLink RX8 36 mX8_inWord.1 ∈ lw_g := h_t6 222 rfl rfl
theorem sX8_inWord : Cond.instanceMethod mX8_inWord.1 ∈ lw_g ∧ Cond.selects mX8_inWord.1.cls mX8_inWord.1 mX8_inWord.1 ∈ lw_g := ⟨h_t6 224 rfl rfl, h_ins 72 rfl⟩
theorem dX8_take_70 : decode cX8_take 70 = .ok (.invokevirtual 36, 3) := by decide +kernel
theorem dX8_take_73 : decode cX8_take 73 = .ok (.ireturn, 1) := by decide +kernel
theorem dX8_take_74 : decode cX8_take 74 = .ok (.aload_n 0, 1) := by decide +kernel
theorem dX8_take_75 : decode cX8_take 75 = .ok (.iload_n 1, 1) := by decide +kernel
theorem kX8_partStart : h_ml mX8_partStart 1 := ⟨h_t7 2 rfl rfl, h_t1 7 rfl rfl, ⟨by decide, by decide, by decide +kernel⟩, by decide⟩
theorem lX8_40 : Cond.methodLink RX8 40 mX8_partStart.1 ∈ lw_g := h_t6 239 rfl rfl
theorem sX8_partStart : Cond.instanceMethod mX8_partStart.1 ∈ lw_g ∧ Cond.selects mX8_partStart.1.cls mX8_partStart.1 mX8_partStart.1 ∈ lw_g := ⟨h_t7 1 rfl rfl, h_ins 76 rfl⟩
theorem dX8_take_76 : decode cX8_take 76 = .ok (.invokevirtual 40, 3) := by decide +kernel
theorem dX8_take_79 : decode cX8_take 79 = .ok (.ireturn, 1) := by decide +kernel
theorem dX8_take_80 : decode cX8_take 80 = .ok (.aload_n 0, 1) := by decide +kernel
theorem dX8_take_81 : decode cX8_take 81 = .ok (.iload_n 1, 1) := by decide +kernel
theorem kX8_inQuotes : h_ml mX8_inQuotes 1 := ⟨h_t7 20 rfl rfl, h_t1 7 rfl rfl, ⟨by decide, by decide, by decide +kernel⟩, by decide⟩
theorem lX8_43 : Cond.methodLink RX8 43 mX8_inQuotes.1 ∈ lw_g := h_t7 17 rfl rfl
theorem sX8_inQuotes : Cond.instanceMethod mX8_inQuotes.1 ∈ lw_g ∧ Cond.selects mX8_inQuotes.1.cls mX8_inQuotes.1 mX8_inQuotes.1 ∈ lw_g := ⟨h_t7 19 rfl rfl, h_ins 80 rfl⟩
theorem dX8_take_82 : decode cX8_take 82 = .ok (.invokevirtual 43, 3) := by decide +kernel
theorem dX8_take_85 : decode cX8_take 85 = .ok (.ireturn, 1) := by decide +kernel
theorem dX8_take_86 : decode cX8_take 86 = .ok (.aload_n 0, 1) := by decide +kernel
theorem dX8_take_87 : decode cX8_take 87 = .ok (.iload_n 1, 1) := by decide +kernel
theorem dX8_take_88 : decode cX8_take 88 = .ok (.invokevirtual 46, 3) := by decide +kernel
theorem dX8_take_91 : decode cX8_take 91 = .ok (.ireturn, 1) := by decide +kernel
theorem dX8_take_92 : decode cX8_take 92 = .ok (.aload_n 0, 1) := by decide +kernel
theorem dX8_take_93 : decode cX8_take 93 = .ok (.iload_n 1, 1) := by decide +kernel
theorem kX8_aheadOfLiteral : h_ml mX8_aheadOfLiteral 1 := ⟨h_t7 25 rfl rfl, h_t1 7 rfl rfl, ⟨by decide, by decide, by decide +kernel⟩, by decide⟩
theorem lX8_49 : Cond.methodLink RX8 49 mX8_aheadOfLiteral.1 ∈ lw_g := h_t7 22 rfl rfl
theorem sX8_aheadOfLiteral : Cond.instanceMethod mX8_aheadOfLiteral.1 ∈ lw_g ∧ Cond.selects mX8_aheadOfLiteral.1.cls mX8_aheadOfLiteral.1 mX8_aheadOfLiteral.1 ∈ lw_g := ⟨h_t7 24 rfl rfl, h_ins 81 rfl⟩
theorem dX8_take_94 : decode cX8_take 94 = .ok (.invokevirtual 49, 3) := by decide +kernel
theorem dX8_take_97 : decode cX8_take 97 = .ok (.ireturn, 1) := by decide +kernel
theorem dX8_take_98 : decode cX8_take 98 = .ok (.aload_n 0, 1) := by decide +kernel
theorem dX8_take_99 : decode cX8_take 99 = .ok (.iload_n 1, 1) := by decide +kernel
theorem kX8_inLiteral : h_ml mX8_inLiteral 1 := ⟨h_t7 29 rfl rfl, h_t1 7 rfl rfl, ⟨by decide, by decide, by decide +kernel⟩, by decide⟩
theorem lX8_52 : Cond.methodLink RX8 52 mX8_inLiteral.1 ∈ lw_g := h_t7 26 rfl rfl
theorem sX8_inLiteral : Cond.instanceMethod mX8_inLiteral.1 ∈ lw_g ∧ Cond.selects mX8_inLiteral.1.cls mX8_inLiteral.1 mX8_inLiteral.1 ∈ lw_g := ⟨h_t7 28 rfl rfl, h_ins 82 rfl⟩
theorem dX8_take_100 : decode cX8_take 100 = .ok (.invokevirtual 52, 3) := by decide +kernel
theorem dX8_take_103 : decode cX8_take 103 = .ok (.ireturn, 1) := by decide +kernel
theorem dX8_take_104 : decode cX8_take 104 = .ok (.aload_n 0, 1) := by decide +kernel
theorem dX8_take_105 : decode cX8_take 105 = .ok (.iload_n 1, 1) := by decide +kernel
theorem dX8_take_106 : decode cX8_take 106 = .ok (.invokevirtual 55, 3) := by decide +kernel
theorem dX8_take_109 : decode cX8_take 109 = .ok (.ireturn, 1) := by decide +kernel
theorem dX8_take_110 : decode cX8_take 110 = .ok (.iload_n 1, 1) := by decide +kernel
theorem dX8_take_111 : decode cX8_take 111 = .ok (.bipush 10, 2) := by decide +kernel
theorem dX8_take_113 : decode cX8_take 113 = .ok (.if_icmp .ne 7, 3) := by decide +kernel
theorem dX8_take_120 : decode cX8_take 120 = .ok (.aload_n 0, 1) := by decide +kernel
theorem dX8_take_121 : decode cX8_take 121 = .ok (.iload_n 1, 1) := by decide +kernel
theorem dX8_take_122 : decode cX8_take 122 = .ok (.invokevirtual 58, 3) := by decide +kernel
theorem dX8_take_125 : decode cX8_take 125 = .ok (.ireturn, 1) := by decide +kernel
theorem dX8_take_116 : decode cX8_take 116 = .ok (.iconst 1, 1) := by decide +kernel
theorem dX8_take_117 : decode cX8_take 117 = .ok (.goto 8, 3) := by decide +kernel
theorem dX8_take_126 : decode cX8_take 126 = .ok (.aload_n 0, 1) := by decide +kernel
theorem dX8_take_127 : decode cX8_take 127 = .ok (.iload_n 1, 1) := by decide +kernel
theorem kX8_passingOver : h_ml mX8_passingOver 1 := ⟨h_t7 33 rfl rfl, h_t1 7 rfl rfl, ⟨by decide, by decide, by decide +kernel⟩, by decide⟩
theorem lX8_61 : Cond.methodLink RX8 61 mX8_passingOver.1 ∈ lw_g := h_t7 30 rfl rfl
theorem sX8_passingOver : Cond.instanceMethod mX8_passingOver.1 ∈ lw_g ∧ Cond.selects mX8_passingOver.1.cls mX8_passingOver.1 mX8_passingOver.1 ∈ lw_g := ⟨h_t7 32 rfl rfl, h_ins 83 rfl⟩
theorem dX8_take_128 : decode cX8_take 128 = .ok (.invokevirtual 61, 3) := by decide +kernel
theorem dX8_take_131 : decode cX8_take 131 = .ok (.ireturn, 1) := by decide +kernel
def fn_X8_take (k0 : Nat) (x1 : Int32) (s : uS) : Option (uS × Int32) := if (s.I k0 5) = 0 then ((fn_X8_inWord k0 x1 s).bind fun r1 => some (r1.1, r1.2)) else (if (s.I k0 5) = 1 then ((fn_X8_partStart k0 x1 s).bind fun r3 => some (r3.1, r3.2)) else (if (s.I k0 5) = 2 then ((fn_X8_inQuotes k0 x1 s).bind fun r5 => some (r5.1, r5.2)) else (if (s.I k0 5) = 3 then ((fn_X8_inQuotes k0 x1 s).bind fun r7 => some (r7.1, r7.2)) else (if (s.I k0 5) = 4 then ((fn_X8_inNumber k0 x1 s).bind fun r9 => some (r9.1, r9.2)) else (if (s.I k0 5) = 5 then ((fn_X8_aheadOfLiteral k0 x1 s).bind fun r11 => some (r11.1, r11.2)) else (if (s.I k0 5) = 6 then ((fn_X8_aheadOfLiteral k0 x1 s).bind fun r13 => some (r13.1, r13.2)) else (if (s.I k0 5) = 7 then ((fn_X8_aheadOfLiteral k0 x1 s).bind fun r15 => some (r15.1, r15.2)) else (if (s.I k0 5) = 8 then ((fn_X8_aheadOfLiteral k0 x1 s).bind fun r17 => some (r17.1, r17.2)) else (if (s.I k0 5) = 9 then ((fn_X8_inLiteral k0 x1 s).bind fun r19 => some (r19.1, r19.2)) else (if (s.I k0 5) = 10 then ((fn_X8_partEnd k0 x1 s).bind fun r21 => some (r21.1, r21.2)) else (if (s.I k0 5) = 11 then (if x1 = 10 then (some (s, (1 : Int32))) else ((fn_X8_passOver k0 x1 s).bind fun r24 => some (r24.1, r24.2))) else ((fn_X8_passingOver k0 x1 s).bind fun r26 => some (r26.1, r26.2)))))))))))))
set_option maxRecDepth 100000 in
set_option maxHeartbeats 4000000 in
theorem xc_X8_take {l : Launch} {D : va_G} {A : Nat → ClassId} {B : Nat} {Z : State → Heap → Prop} {vF : Value} (uk : uK B Z vF) {k0 : Nat} {x1 : Int32} {s : uS} {r : (uS × Int32)} (hk0 : uSo k0 8) (h : fn_X8_take k0 x1 s = some r) : CU l D A B Z 5 mX8_take s [.ref (B + k0), .int x1] (r.1, some (.int r.2)) := by
  unfold fn_X8_take at h
  refine cu_of rfl uk.1.1 (Nat.le_of_ble_eq_true rfl) ?_
  show GU _ _ _ _ _ _ _ _ _ 0 [(0, .ref (B + k0)), (1, .int x1)] []
  refine uu_aload_n dX8_take_0 rfl (List.mem_of_getElem? (i := 0) rfl) ?_
  refine uu_geti (ci := 8) (N := 8) fX8_33 (by decide) hk0.is (by decide) (by decide) dX8_take_1 ?_
  by_cases c4_0 : (s.I k0 5) = 0
  · replace h := uu_pos c4_0 h
    refine uu_tabE (tgt := 68) (off := 64) (v := 0) dX8_take_4 c4_0 (by decide) (by decide) rfl (by decide) ?_
    refine uu_aload_n dX8_take_68 rfl (List.mem_of_getElem? (i := 0) rfl) ?_
    refine uu_iload_n dX8_take_69 rfl (List.mem_of_getElem? (i := 1) rfl) ?_
    obtain ⟨r1, e2, h⟩ := uu_ob h
    refine uu_cv (d1 := 3) (k := k0) (ci := 8) (T := TX8) (N := 8) (As := [.int x1]) (st := []) (st' := [.int r1.2]) (xc_X8_inWord uk hk0 e2) hk0.is (by decide) rfl kX8_inWord lX8_36 sX8_inWord (by decide) (Nat.le_of_ble_eq_true rfl) dX8_take_70 rfl ?_
    have hr := Option.some.inj h
    subst hr
    exact uu_iret rfl dX8_take_73
  replace h := uu_neg c4_0 h
  by_cases c4_1 : (s.I k0 5) = 1
  · replace h := uu_pos c4_1 h
    refine uu_tabE (tgt := 74) (off := 70) (v := 1) dX8_take_4 c4_1 (by decide) (by decide) rfl (by decide) ?_
    refine uu_aload_n dX8_take_74 rfl (List.mem_of_getElem? (i := 0) rfl) ?_
    refine uu_iload_n dX8_take_75 rfl (List.mem_of_getElem? (i := 1) rfl) ?_
    obtain ⟨r3, e4, h⟩ := uu_ob h
    refine uu_cv (d1 := 4) (k := k0) (ci := 8) (T := TX8) (N := 8) (As := [.int x1]) (st := []) (st' := [.int r3.2]) (xc_X8_partStart uk hk0 e4) hk0.is (by decide) rfl kX8_partStart lX8_40 sX8_partStart (by decide) (Nat.le_of_ble_eq_true rfl) dX8_take_76 rfl ?_
    have hr := Option.some.inj h
    subst hr
    exact uu_iret rfl dX8_take_79
  replace h := uu_neg c4_1 h
  by_cases c4_2 : (s.I k0 5) = 2
  · replace h := uu_pos c4_2 h
    refine uu_tabE (tgt := 80) (off := 76) (v := 2) dX8_take_4 c4_2 (by decide) (by decide) rfl (by decide) ?_
    refine uu_aload_n dX8_take_80 rfl (List.mem_of_getElem? (i := 0) rfl) ?_
    refine uu_iload_n dX8_take_81 rfl (List.mem_of_getElem? (i := 1) rfl) ?_
    obtain ⟨r5, e6, h⟩ := uu_ob h
    refine uu_cv (d1 := 2) (k := k0) (ci := 8) (T := TX8) (N := 8) (As := [.int x1]) (st := []) (st' := [.int r5.2]) (xc_X8_inQuotes uk hk0 e6) hk0.is (by decide) rfl kX8_inQuotes lX8_43 sX8_inQuotes (by decide) (Nat.le_of_ble_eq_true rfl) dX8_take_82 rfl ?_
    have hr := Option.some.inj h
    subst hr
    exact uu_iret rfl dX8_take_85
  replace h := uu_neg c4_2 h
  by_cases c4_3 : (s.I k0 5) = 3
  · replace h := uu_pos c4_3 h
    refine uu_tabE (tgt := 80) (off := 76) (v := 3) dX8_take_4 c4_3 (by decide) (by decide) rfl (by decide) ?_
    refine uu_aload_n dX8_take_80 rfl (List.mem_of_getElem? (i := 0) rfl) ?_
    refine uu_iload_n dX8_take_81 rfl (List.mem_of_getElem? (i := 1) rfl) ?_
    obtain ⟨r7, e8, h⟩ := uu_ob h
    refine uu_cv (d1 := 2) (k := k0) (ci := 8) (T := TX8) (N := 8) (As := [.int x1]) (st := []) (st' := [.int r7.2]) (xc_X8_inQuotes uk hk0 e8) hk0.is (by decide) rfl kX8_inQuotes lX8_43 sX8_inQuotes (by decide) (Nat.le_of_ble_eq_true rfl) dX8_take_82 rfl ?_
    have hr := Option.some.inj h
    subst hr
    exact uu_iret rfl dX8_take_85
  replace h := uu_neg c4_3 h
  by_cases c4_4 : (s.I k0 5) = 4
  · replace h := uu_pos c4_4 h
    refine uu_tabE (tgt := 86) (off := 82) (v := 4) dX8_take_4 c4_4 (by decide) (by decide) rfl (by decide) ?_
    refine uu_aload_n dX8_take_86 rfl (List.mem_of_getElem? (i := 0) rfl) ?_
    refine uu_iload_n dX8_take_87 rfl (List.mem_of_getElem? (i := 1) rfl) ?_
    obtain ⟨r9, e10, h⟩ := uu_ob h
    refine uu_cv (d1 := 3) (k := k0) (ci := 8) (T := TX8) (N := 8) (As := [.int x1]) (st := []) (st' := [.int r9.2]) (xc_X8_inNumber uk hk0 e10) hk0.is (by decide) rfl kX8_inNumber lX8_46 sX8_inNumber (by decide) (Nat.le_of_ble_eq_true rfl) dX8_take_88 rfl ?_
    have hr := Option.some.inj h
    subst hr
    exact uu_iret rfl dX8_take_91
  replace h := uu_neg c4_4 h
  by_cases c4_5 : (s.I k0 5) = 5
  · replace h := uu_pos c4_5 h
    refine uu_tabE (tgt := 92) (off := 88) (v := 5) dX8_take_4 c4_5 (by decide) (by decide) rfl (by decide) ?_
    refine uu_aload_n dX8_take_92 rfl (List.mem_of_getElem? (i := 0) rfl) ?_
    refine uu_iload_n dX8_take_93 rfl (List.mem_of_getElem? (i := 1) rfl) ?_
    obtain ⟨r11, e12, h⟩ := uu_ob h
    refine uu_cv (d1 := 2) (k := k0) (ci := 8) (T := TX8) (N := 8) (As := [.int x1]) (st := []) (st' := [.int r11.2]) (xc_X8_aheadOfLiteral uk hk0 e12) hk0.is (by decide) rfl kX8_aheadOfLiteral lX8_49 sX8_aheadOfLiteral (by decide) (Nat.le_of_ble_eq_true rfl) dX8_take_94 rfl ?_
    have hr := Option.some.inj h
    subst hr
    exact uu_iret rfl dX8_take_97
  replace h := uu_neg c4_5 h
  by_cases c4_6 : (s.I k0 5) = 6
  · replace h := uu_pos c4_6 h
    refine uu_tabE (tgt := 92) (off := 88) (v := 6) dX8_take_4 c4_6 (by decide) (by decide) rfl (by decide) ?_
    refine uu_aload_n dX8_take_92 rfl (List.mem_of_getElem? (i := 0) rfl) ?_
    refine uu_iload_n dX8_take_93 rfl (List.mem_of_getElem? (i := 1) rfl) ?_
    obtain ⟨r13, e14, h⟩ := uu_ob h
    refine uu_cv (d1 := 2) (k := k0) (ci := 8) (T := TX8) (N := 8) (As := [.int x1]) (st := []) (st' := [.int r13.2]) (xc_X8_aheadOfLiteral uk hk0 e14) hk0.is (by decide) rfl kX8_aheadOfLiteral lX8_49 sX8_aheadOfLiteral (by decide) (Nat.le_of_ble_eq_true rfl) dX8_take_94 rfl ?_
    have hr := Option.some.inj h
    subst hr
    exact uu_iret rfl dX8_take_97
  replace h := uu_neg c4_6 h
  by_cases c4_7 : (s.I k0 5) = 7
  · replace h := uu_pos c4_7 h
    refine uu_tabE (tgt := 92) (off := 88) (v := 7) dX8_take_4 c4_7 (by decide) (by decide) rfl (by decide) ?_
    refine uu_aload_n dX8_take_92 rfl (List.mem_of_getElem? (i := 0) rfl) ?_
    refine uu_iload_n dX8_take_93 rfl (List.mem_of_getElem? (i := 1) rfl) ?_
    obtain ⟨r15, e16, h⟩ := uu_ob h
    refine uu_cv (d1 := 2) (k := k0) (ci := 8) (T := TX8) (N := 8) (As := [.int x1]) (st := []) (st' := [.int r15.2]) (xc_X8_aheadOfLiteral uk hk0 e16) hk0.is (by decide) rfl kX8_aheadOfLiteral lX8_49 sX8_aheadOfLiteral (by decide) (Nat.le_of_ble_eq_true rfl) dX8_take_94 rfl ?_
    have hr := Option.some.inj h
    subst hr
    exact uu_iret rfl dX8_take_97
  replace h := uu_neg c4_7 h
  by_cases c4_8 : (s.I k0 5) = 8
  · replace h := uu_pos c4_8 h
    refine uu_tabE (tgt := 92) (off := 88) (v := 8) dX8_take_4 c4_8 (by decide) (by decide) rfl (by decide) ?_
    refine uu_aload_n dX8_take_92 rfl (List.mem_of_getElem? (i := 0) rfl) ?_
    refine uu_iload_n dX8_take_93 rfl (List.mem_of_getElem? (i := 1) rfl) ?_
    obtain ⟨r17, e18, h⟩ := uu_ob h
    refine uu_cv (d1 := 2) (k := k0) (ci := 8) (T := TX8) (N := 8) (As := [.int x1]) (st := []) (st' := [.int r17.2]) (xc_X8_aheadOfLiteral uk hk0 e18) hk0.is (by decide) rfl kX8_aheadOfLiteral lX8_49 sX8_aheadOfLiteral (by decide) (Nat.le_of_ble_eq_true rfl) dX8_take_94 rfl ?_
    have hr := Option.some.inj h
    subst hr
    exact uu_iret rfl dX8_take_97
  replace h := uu_neg c4_8 h
  by_cases c4_9 : (s.I k0 5) = 9
  · replace h := uu_pos c4_9 h
    refine uu_tabE (tgt := 98) (off := 94) (v := 9) dX8_take_4 c4_9 (by decide) (by decide) rfl (by decide) ?_
    refine uu_aload_n dX8_take_98 rfl (List.mem_of_getElem? (i := 0) rfl) ?_
    refine uu_iload_n dX8_take_99 rfl (List.mem_of_getElem? (i := 1) rfl) ?_
    obtain ⟨r19, e20, h⟩ := uu_ob h
    refine uu_cv (d1 := 2) (k := k0) (ci := 8) (T := TX8) (N := 8) (As := [.int x1]) (st := []) (st' := [.int r19.2]) (xc_X8_inLiteral uk hk0 e20) hk0.is (by decide) rfl kX8_inLiteral lX8_52 sX8_inLiteral (by decide) (Nat.le_of_ble_eq_true rfl) dX8_take_100 rfl ?_
    have hr := Option.some.inj h
    subst hr
    exact uu_iret rfl dX8_take_103
  replace h := uu_neg c4_9 h
  by_cases c4_10 : (s.I k0 5) = 10
  · replace h := uu_pos c4_10 h
    refine uu_tabE (tgt := 104) (off := 100) (v := 10) dX8_take_4 c4_10 (by decide) (by decide) rfl (by decide) ?_
    refine uu_aload_n dX8_take_104 rfl (List.mem_of_getElem? (i := 0) rfl) ?_
    refine uu_iload_n dX8_take_105 rfl (List.mem_of_getElem? (i := 1) rfl) ?_
    obtain ⟨r21, e22, h⟩ := uu_ob h
    refine uu_cv (d1 := 2) (k := k0) (ci := 8) (T := TX8) (N := 8) (As := [.int x1]) (st := []) (st' := [.int r21.2]) (xc_X8_partEnd uk hk0 e22) hk0.is (by decide) rfl kX8_partEnd lX8_55 sX8_partEnd (by decide) (Nat.le_of_ble_eq_true rfl) dX8_take_106 rfl ?_
    have hr := Option.some.inj h
    subst hr
    exact uu_iret rfl dX8_take_109
  replace h := uu_neg c4_10 h
  by_cases c4_11 : (s.I k0 5) = 11
  · replace h := uu_pos c4_11 h
    refine uu_tabE (tgt := 110) (off := 106) (v := 11) dX8_take_4 c4_11 (by decide) (by decide) rfl (by decide) ?_
    refine uu_iload_n dX8_take_110 rfl (List.mem_of_getElem? (i := 1) rfl) ?_
    refine uu_bipush (v := 10) dX8_take_111 (by decide) ?_
    refine uu_icmp_ne (tgt := 120) dX8_take_113 (by decide) (fun c23 => ?_) (fun c23 => ?_)
    · replace h := uu_neg c23 h
      refine uu_aload_n dX8_take_120 rfl (List.mem_of_getElem? (i := 0) rfl) ?_
      refine uu_iload_n dX8_take_121 rfl (List.mem_of_getElem? (i := 1) rfl) ?_
      obtain ⟨r24, e25, h⟩ := uu_ob h
      refine uu_cv (d1 := 1) (k := k0) (ci := 8) (T := TX8) (N := 8) (As := [.int x1]) (st := []) (st' := [.int r24.2]) (xc_X8_passOver uk hk0 e25) hk0.is (by decide) rfl kX8_passOver lX8_58 sX8_passOver (by decide) (Nat.le_of_ble_eq_true rfl) dX8_take_122 rfl ?_
      have hr := Option.some.inj h
      subst hr
      exact uu_iret rfl dX8_take_125
    · replace h := uu_pos c23 h
      refine uu_iconst (v := 1) dX8_take_116 (by decide) ?_
      refine uu_goto (tgt := 125) dX8_take_117 (by decide) ?_
      have hr := Option.some.inj h
      subst hr
      exact uu_iret rfl dX8_take_125
  replace h := uu_neg c4_11 h
  have cx4 : (s.I k0 5).toInt < 0 ∨ 11 < (s.I k0 5).toInt := by
    refine Decidable.byContradiction fun q => ?_
    rcases (show (s.I k0 5).toInt = 0 ∨ (s.I k0 5).toInt = 1 ∨ (s.I k0 5).toInt = 2 ∨ (s.I k0 5).toInt = 3 ∨ (s.I k0 5).toInt = 4 ∨ (s.I k0 5).toInt = 5 ∨ (s.I k0 5).toInt = 6 ∨ (s.I k0 5).toInt = 7 ∨ (s.I k0 5).toInt = 8 ∨ (s.I k0 5).toInt = 9 ∨ (s.I k0 5).toInt = 10 ∨ (s.I k0 5).toInt = 11 by omega) with q | q | q | q | q | q | q | q | q | q | q | q
    · exact c4_0 (sw_eq q (by decide))
    · exact c4_1 (sw_eq q (by decide))
    · exact c4_2 (sw_eq q (by decide))
    · exact c4_3 (sw_eq q (by decide))
    · exact c4_4 (sw_eq q (by decide))
    · exact c4_5 (sw_eq q (by decide))
    · exact c4_6 (sw_eq q (by decide))
    · exact c4_7 (sw_eq q (by decide))
    · exact c4_8 (sw_eq q (by decide))
    · exact c4_9 (sw_eq q (by decide))
    · exact c4_10 (sw_eq q (by decide))
    · exact c4_11 (sw_eq q (by decide))
  refine uu_tableOut (tgt := 126) dX8_take_4 cx4 (by decide) ?_
  refine uu_aload_n dX8_take_126 rfl (List.mem_of_getElem? (i := 0) rfl) ?_
  refine uu_iload_n dX8_take_127 rfl (List.mem_of_getElem? (i := 1) rfl) ?_
  obtain ⟨r26, e27, h⟩ := uu_ob h
  refine uu_cv (d1 := 0) (k := k0) (ci := 8) (T := TX8) (N := 8) (As := [.int x1]) (st := []) (st' := [.int r26.2]) (xc_X8_passingOver uk hk0 e27) hk0.is (by decide) rfl kX8_passingOver lX8_61 sX8_passingOver (by decide) (Nat.le_of_ble_eq_true rfl) dX8_take_128 rfl ?_
  have hr := Option.some.inj h
  subst hr
  exact uu_iret rfl dX8_take_131
abbrev mX8_isName : hM := (yX8_isName, cX8_isName, 3, (some (.boolean)))
theorem dX8_isName_10 : decode cX8_isName 10 = .ok (.iload_n 2, 1) := by decide +kernel
theorem dX8_isName_11 : decode cX8_isName 11 = .ok (.aload_n 0, 1) := by decide +kernel
theorem dX8_isName_12 : decode cX8_isName 12 = .ok (.getfield 14, 3) := by decide +kernel
theorem fX8_131 : h_fl RX8 131 9 2 RX9 TX9 6 := ⟨rfl, by decide, inX9, h_t1 78 rfl rfl⟩
theorem dX8_isName_15 : decode cX8_isName 15 = .ok (.getfield 131, 3) := by decide +kernel
theorem dX8_isName_18 : decode cX8_isName 18 = .ok (.iload_n 1, 1) := by decide +kernel
theorem dX8_isName_19 : decode cX8_isName 19 = .ok (.iaload, 1) := by decide +kernel
theorem dX8_isName_20 : decode cX8_isName 20 = .ok (.if_icmp .ge 39, 3) := by decide +kernel
theorem dX8_isName_59 : decode cX8_isName 59 = .ok (.aload_n 0, 1) := by decide +kernel
theorem dX8_isName_60 : decode cX8_isName 60 = .ok (.getfield 14, 3) := by decide +kernel
theorem dX8_isName_63 : decode cX8_isName 63 = .ok (.iload_n 1, 1) := by decide +kernel
theorem lX8_122 : Cond.methodLink RX8 122 mX9_lengthOf.1 ∈ lw_g := h_t7 46 rfl rfl
theorem dX8_isName_64 : decode cX8_isName 64 = .ok (.invokevirtual 122, 3) := by decide +kernel
theorem dX8_isName_67 : decode cX8_isName 67 = .ok (.ifCond .le 20, 3) := by decide +kernel
theorem dX8_isName_87 : decode cX8_isName 87 = .ok (.iconst 0, 1) := by decide +kernel
theorem dX8_isName_88 : decode cX8_isName 88 = .ok (.ireturn, 1) := by decide +kernel
theorem dX8_isName_70 : decode cX8_isName 70 = .ok (.aload_n 0, 1) := by decide +kernel
theorem dX8_isName_71 : decode cX8_isName 71 = .ok (.getfield 14, 3) := by decide +kernel
theorem dX8_isName_74 : decode cX8_isName 74 = .ok (.iload_n 1, 1) := by decide +kernel
theorem dX8_isName_75 : decode cX8_isName 75 = .ok (.invokevirtual 122, 3) := by decide +kernel
theorem dX8_isName_78 : decode cX8_isName 78 = .ok (.bipush 20, 2) := by decide +kernel
theorem dX8_isName_80 : decode cX8_isName 80 = .ok (.if_icmp .gt 7, 3) := by decide +kernel
theorem dX8_isName_83 : decode cX8_isName 83 = .ok (.iconst 1, 1) := by decide +kernel
theorem dX8_isName_84 : decode cX8_isName 84 = .ok (.goto 4, 3) := by decide +kernel
theorem dX8_isName_23 : decode cX8_isName 23 = .ok (.aload_n 0, 1) := by decide +kernel
theorem dX8_isName_24 : decode cX8_isName 24 = .ok (.getfield 14, 3) := by decide +kernel
theorem fX8_134 : h_fl RX8 134 9 0 RX9 TX9 6 := ⟨rfl, by decide, inX9, h_t1 62 rfl rfl⟩
theorem dX8_isName_27 : decode cX8_isName 27 = .ok (.getfield 134, 3) := by decide +kernel
theorem dX8_isName_30 : decode cX8_isName 30 = .ok (.iload_n 2, 1) := by decide +kernel
theorem dX8_isName_31 : decode cX8_isName 31 = .ok (.baload, 1) := by decide +kernel
theorem dX8_isName_32 : decode cX8_isName 32 = .ok (.bipush 32, 2) := by decide +kernel
theorem dX8_isName_34 : decode cX8_isName 34 = .ok (.if_icmp .lt 17, 3) := by decide +kernel
theorem dX8_isName_51 : decode cX8_isName 51 = .ok (.iconst 0, 1) := by decide +kernel
theorem dX8_isName_52 : decode cX8_isName 52 = .ok (.ireturn, 1) := by decide +kernel
theorem dX8_isName_37 : decode cX8_isName 37 = .ok (.aload_n 0, 1) := by decide +kernel
theorem dX8_isName_38 : decode cX8_isName 38 = .ok (.getfield 14, 3) := by decide +kernel
theorem dX8_isName_41 : decode cX8_isName 41 = .ok (.getfield 134, 3) := by decide +kernel
theorem dX8_isName_44 : decode cX8_isName 44 = .ok (.iload_n 2, 1) := by decide +kernel
theorem dX8_isName_45 : decode cX8_isName 45 = .ok (.baload, 1) := by decide +kernel
theorem dX8_isName_46 : decode cX8_isName 46 = .ok (.bipush 126, 2) := by decide +kernel
theorem dX8_isName_48 : decode cX8_isName 48 = .ok (.if_icmp .le 5, 3) := by decide +kernel
theorem dX8_isName_53 : decode cX8_isName 53 = .ok (.iinc 2 1, 3) := by decide +kernel
theorem dX8_isName_56 : decode cX8_isName 56 = .ok (.goto (-46), 3) := by decide +kernel
theorem dX8_isName_0 : decode cX8_isName 0 = .ok (.aload_n 0, 1) := by decide +kernel
theorem dX8_isName_1 : decode cX8_isName 1 = .ok (.getfield 14, 3) := by decide +kernel
theorem fX8_128 : h_fl RX8 128 9 1 RX9 TX9 6 := ⟨rfl, by decide, inX9, h_t1 70 rfl rfl⟩
theorem dX8_isName_4 : decode cX8_isName 4 = .ok (.getfield 128, 3) := by decide +kernel
theorem dX8_isName_7 : decode cX8_isName 7 = .ok (.iload_n 1, 1) := by decide +kernel
theorem dX8_isName_8 : decode cX8_isName 8 = .ok (.iaload, 1) := by decide +kernel
theorem dX8_isName_9 : decode cX8_isName 9 = .ok (.istore_n 2, 1) := by decide +kernel
def fb_X8_isName_10 (K10 : Nat → Int32 → Int32 → uS → Option Bool) (k0 : Nat) (x1 : Int32) (x2 : Int32) (s : uS) : Option Bool := (iget 20 s (k0 + 1 + 3) x1).bind fun v1 => if v1 ≤ x2 then ((fn_X9_lengthOf (k0 + 1) x1 s).bind fun v4 => if v4 ≤ 0 then (some false) else ((fn_X9_lengthOf (k0 + 1) x1 s).bind fun v7 => if (20 : Int32) < v7 then (some false) else (some true))) else ((iget 21 s (k0 + 1 + 1) x2).bind fun v10 => if v10 < 32 then (some false) else ((iget 21 s (k0 + 1 + 1) x2).bind fun v13 => if v13 ≤ 126 then (K10 k0 x1 (x2 + 1) s) else (some false)))
set_option maxRecDepth 100000 in
set_option maxHeartbeats 4000000 in
theorem xb_X8_isName_10 {l : Launch} {D : va_G} {A : Nat → ClassId} {B : Nat} {Z : State → Heap → Prop} {vF : Value} (uk : uK B Z vF) {K10 : Nat → Int32 → Int32 → uS → Option Bool} (hK10 : ∀ (k0 : Nat) (x1 : Int32) (x2 : Int32) (hk0 : uSo k0 8) (s : uS) (r : Bool), K10 k0 x1 x2 s = some r → GU l D A B Z mX8_isName 1 (s, some (.int (bI r))) s 10 [(0, .ref (B + k0)), (1, .int x1), (2, .int x2)] []) {k0 : Nat} {x1 : Int32} {x2 : Int32} {s : uS} {r : Bool} (hk0 : uSo k0 8) (h : fb_X8_isName_10 K10 k0 x1 x2 s = some r) : GU l D A B Z mX8_isName 1 (s, some (.int (bI r))) s 10 [(0, .ref (B + k0)), (1, .int x1), (2, .int x2)] [] := by
  unfold fb_X8_isName_10 at h
  refine uu_iload_n dX8_isName_10 rfl (List.mem_of_getElem? (i := 2) rfl) ?_
  refine uu_aload_n dX8_isName_11 rfl (List.mem_of_getElem? (i := 0) rfl) ?_
  refine uu_getc (ci := 8) (N := 8) fX8_14 (by decide) hk0.is (by decide) (c := 1) (by decide) (k2 := k0 + 1) rfl dX8_isName_12 ?_
  refine uu_getc (ci := 9) (N := 6) fX8_131 (by decide) (so_parts hk0).is (by decide) (c := 3) (by decide) (k2 := k0 + 1 + 3) rfl dX8_isName_15 ?_
  refine uu_iload_n dX8_isName_18 rfl (List.mem_of_getElem? (i := 1) rfl) ?_
  obtain ⟨v1, e2, h⟩ := uu_ob h
  refine uu_iald e2 dX8_isName_19 ?_
  refine uu_icmp_ge (tgt := 59) dX8_isName_20 (by decide) (fun c3 => ?_) (fun c3 => ?_)
  · replace h := uu_pos c3 h
    refine uu_aload_n dX8_isName_59 rfl (List.mem_of_getElem? (i := 0) rfl) ?_
    refine uu_getc (ci := 8) (N := 8) fX8_14 (by decide) hk0.is (by decide) (c := 1) (by decide) (k2 := k0 + 1) rfl dX8_isName_60 ?_
    refine uu_iload_n dX8_isName_63 rfl (List.mem_of_getElem? (i := 1) rfl) ?_
    obtain ⟨v4, e5, h⟩ := uu_ob h
    refine uu_cv (d1 := 0) (k := k0 + 1) (ci := 9) (T := TX9) (N := 6) (As := [.int x1]) (st := []) (st' := [.int v4]) (xc_X9_lengthOf uk (so_parts hk0) e5) (so_parts hk0).is (by decide) rfl kX9_lengthOf lX8_122 sX9_lengthOf (by decide) (Nat.le_of_ble_eq_true rfl) dX8_isName_64 rfl ?_
    refine uu_if_le (tgt := 87) dX8_isName_67 (by decide) (fun c6 => ?_) (fun c6 => ?_)
    · replace h := uu_pos c6 h
      refine uu_iconst (v := 0) dX8_isName_87 (by decide) ?_
      have hr := Option.some.inj h
      subst hr
      exact uu_zret (x := bI false) rfl (bI_z _) dX8_isName_88
    · replace h := uu_neg c6 h
      refine uu_aload_n dX8_isName_70 rfl (List.mem_of_getElem? (i := 0) rfl) ?_
      refine uu_getc (ci := 8) (N := 8) fX8_14 (by decide) hk0.is (by decide) (c := 1) (by decide) (k2 := k0 + 1) rfl dX8_isName_71 ?_
      refine uu_iload_n dX8_isName_74 rfl (List.mem_of_getElem? (i := 1) rfl) ?_
      obtain ⟨v7, e8, h⟩ := uu_ob h
      refine uu_cv (d1 := 0) (k := k0 + 1) (ci := 9) (T := TX9) (N := 6) (As := [.int x1]) (st := []) (st' := [.int v7]) (xc_X9_lengthOf uk (so_parts hk0) e8) (so_parts hk0).is (by decide) rfl kX9_lengthOf lX8_122 sX9_lengthOf (by decide) (Nat.le_of_ble_eq_true rfl) dX8_isName_75 rfl ?_
      refine uu_bipush (v := 20) dX8_isName_78 (by decide) ?_
      refine uu_icmp_gt (tgt := 87) dX8_isName_80 (by decide) (fun c9 => ?_) (fun c9 => ?_)
      · replace h := uu_pos c9 h
        refine uu_iconst (v := 0) dX8_isName_87 (by decide) ?_
        have hr := Option.some.inj h
        subst hr
        exact uu_zret (x := bI false) rfl (bI_z _) dX8_isName_88
      · replace h := uu_neg c9 h
        refine uu_iconst (v := 1) dX8_isName_83 (by decide) ?_
        refine uu_goto (tgt := 88) dX8_isName_84 (by decide) ?_
        have hr := Option.some.inj h
        subst hr
        exact uu_zret (x := bI true) rfl (bI_z _) dX8_isName_88
  · replace h := uu_neg c3 h
    refine uu_aload_n dX8_isName_23 rfl (List.mem_of_getElem? (i := 0) rfl) ?_
    refine uu_getc (ci := 8) (N := 8) fX8_14 (by decide) hk0.is (by decide) (c := 1) (by decide) (k2 := k0 + 1) rfl dX8_isName_24 ?_
    refine uu_getc (ci := 9) (N := 6) fX8_134 (by decide) (so_parts hk0).is (by decide) (c := 1) (by decide) (k2 := k0 + 1 + 1) rfl dX8_isName_27 ?_
    refine uu_iload_n dX8_isName_30 rfl (List.mem_of_getElem? (i := 2) rfl) ?_
    obtain ⟨v10, e11, h⟩ := uu_ob h
    refine uu_bald e11 dX8_isName_31 ?_
    refine uu_bipush (v := 32) dX8_isName_32 (by decide) ?_
    refine uu_icmp_lt (tgt := 51) dX8_isName_34 (by decide) (fun c12 => ?_) (fun c12 => ?_)
    · replace h := uu_pos c12 h
      refine uu_iconst (v := 0) dX8_isName_51 (by decide) ?_
      have hr := Option.some.inj h
      subst hr
      exact uu_zret (x := bI false) rfl (bI_z _) dX8_isName_52
    · replace h := uu_neg c12 h
      refine uu_aload_n dX8_isName_37 rfl (List.mem_of_getElem? (i := 0) rfl) ?_
      refine uu_getc (ci := 8) (N := 8) fX8_14 (by decide) hk0.is (by decide) (c := 1) (by decide) (k2 := k0 + 1) rfl dX8_isName_38 ?_
      refine uu_getc (ci := 9) (N := 6) fX8_134 (by decide) (so_parts hk0).is (by decide) (c := 1) (by decide) (k2 := k0 + 1 + 1) rfl dX8_isName_41 ?_
      refine uu_iload_n dX8_isName_44 rfl (List.mem_of_getElem? (i := 2) rfl) ?_
      obtain ⟨v13, e14, h⟩ := uu_ob h
      refine uu_bald e14 dX8_isName_45 ?_
      refine uu_bipush (v := 126) dX8_isName_46 (by decide) ?_
      refine uu_icmp_le (tgt := 53) dX8_isName_48 (by decide) (fun c15 => ?_) (fun c15 => ?_)
      · replace h := uu_pos c15 h
        refine uu_iinc (v := x2 + 1) dX8_isName_53 (k := 2) rfl rfl (by decide) rfl ?_
        refine uu_goto (tgt := 10) dX8_isName_56 (by decide) ?_
        refine uu_lv [1, 2, 0] (lv' := [(0, .ref (B + k0)), (1, .int x1), (2, .int (x2 + 1))]) rfl ?_
        exact hK10 k0 x1 (x2 + 1) hk0 _ _ h
      · replace h := uu_neg c15 h
        refine uu_iconst (v := 0) dX8_isName_51 (by decide) ?_
        have hr := Option.some.inj h
        subst hr
        exact uu_zret (x := bI false) rfl (bI_z _) dX8_isName_52
def fn_X8_isName_10  : Nat → Nat → Int32 → Int32 → uS → Option Bool
  | 0 => fun _ _ _ _ => none
  | n + 1 => fb_X8_isName_10 (fn_X8_isName_10  n)
set_option maxRecDepth 100000 in
set_option maxHeartbeats 4000000 in
theorem xn_X8_isName_10 {l : Launch} {D : va_G} {A : Nat → ClassId} {B : Nat} {Z : State → Heap → Prop} {vF : Value} (uk : uK B Z vF)   : ∀ (n : Nat) (k0 : Nat) (x1 : Int32) (x2 : Int32) (hk0 : uSo k0 8) (s : uS) (r : Bool), fn_X8_isName_10  n k0 x1 x2 s = some r → GU l D A B Z mX8_isName 1 (s, some (.int (bI r))) s 10 [(0, .ref (B + k0)), (1, .int x1), (2, .int x2)] [] := by
  intro n
  induction n with
  | zero => intro k0 x1 x2 hk0 s r h
            cases h
  | succ n ih => intro k0 x1 x2 hk0 s r h
                 exact xb_X8_isName_10 uk ih hk0 h
def fn_X8_isName (k0 : Nat) (x1 : Int32) (s : uS) : Option Bool := (iget 20 s (k0 + 1 + 2) x1).bind fun v1 => fn_X8_isName_10 uFu k0 x1 v1 s
set_option maxRecDepth 100000 in
set_option maxHeartbeats 4000000 in
theorem xc_X8_isName {l : Launch} {D : va_G} {A : Nat → ClassId} {B : Nat} {Z : State → Heap → Prop} {vF : Value} (uk : uK B Z vF) {k0 : Nat} {x1 : Int32} {s : uS} {r : Bool} (hk0 : uSo k0 8) (h : fn_X8_isName k0 x1 s = some r) : CU l D A B Z 1 mX8_isName s [.ref (B + k0), .int x1] (s, some (.int (bI r))) := by
  unfold fn_X8_isName at h
  refine cu_of rfl uk.1.1 (Nat.le_of_ble_eq_true rfl) ?_
  show GU _ _ _ _ _ _ _ _ _ 0 [(0, .ref (B + k0)), (1, .int x1)] []
  refine uu_aload_n dX8_isName_0 rfl (List.mem_of_getElem? (i := 0) rfl) ?_
  refine uu_getc (ci := 8) (N := 8) fX8_14 (by decide) hk0.is (by decide) (c := 1) (by decide) (k2 := k0 + 1) rfl dX8_isName_1 ?_
  refine uu_getc (ci := 9) (N := 6) fX8_128 (by decide) (so_parts hk0).is (by decide) (c := 2) (by decide) (k2 := k0 + 1 + 2) rfl dX8_isName_4 ?_
  refine uu_iload_n dX8_isName_7 rfl (List.mem_of_getElem? (i := 1) rfl) ?_
  obtain ⟨v1, e2, h⟩ := uu_ob h
  refine uu_iald e2 dX8_isName_8 ?_
  refine uu_istore_n dX8_isName_9 rfl (by decide) rfl ?_
  refine uu_lv [1, 2, 0] (lv' := [(0, .ref (B + k0)), (1, .int x1), (2, .int v1)]) rfl ?_
  exact xn_X8_isName_10 uk  _ _ _ _ hk0 _ _ h
abbrev mX8_isPart : hM := (yX8_isPart, cX8_isPart, 4, (some (.boolean)))
theorem dX8_isPart_15 : decode cX8_isPart 15 = .ok (.iload_n 1, 1) := by decide +kernel
theorem dX8_isPart_16 : decode cX8_isPart 16 = .ok (.aload_n 0, 1) := by decide +kernel
theorem dX8_isPart_17 : decode cX8_isPart 17 = .ok (.getfield 14, 3) := by decide +kernel
theorem dX8_isPart_20 : decode cX8_isPart 20 = .ok (.getfield 75, 3) := by decide +kernel
theorem dX8_isPart_23 : decode cX8_isPart 23 = .ok (.if_icmp .lt 11, 3) := by decide +kernel
theorem dX8_isPart_34 : decode cX8_isPart 34 = .ok (.iconst 0, 1) := by decide +kernel
theorem dX8_isPart_35 : decode cX8_isPart 35 = .ok (.ireturn, 1) := by decide +kernel
theorem dX8_isPart_26 : decode cX8_isPart 26 = .ok (.iload_n 2, 1) := by decide +kernel
theorem dX8_isPart_27 : decode cX8_isPart 27 = .ok (.ifCond .ne 7, 3) := by decide +kernel
theorem dX8_isPart_30 : decode cX8_isPart 30 = .ok (.iconst 1, 1) := by decide +kernel
theorem dX8_isPart_31 : decode cX8_isPart 31 = .ok (.goto 4, 3) := by decide +kernel
theorem dX8_isPart_51 : decode cX8_isPart 51 = .ok (.iload_n 2, 1) := by decide +kernel
theorem dX8_isPart_52 : decode cX8_isPart 52 = .ok (.aload_n 0, 1) := by decide +kernel
theorem dX8_isPart_53 : decode cX8_isPart 53 = .ok (.getfield 18, 3) := by decide +kernel
theorem dX8_isPart_56 : decode cX8_isPart 56 = .ok (.iload_n 1, 1) := by decide +kernel
theorem dX8_isPart_57 : decode cX8_isPart 57 = .ok (.iaload, 1) := by decide +kernel
theorem dX8_isPart_58 : decode cX8_isPart 58 = .ok (.if_icmp .ne 7, 3) := by decide +kernel
theorem dX8_isPart_65 : decode cX8_isPart 65 = .ok (.iconst 0, 1) := by decide +kernel
theorem dX8_isPart_66 : decode cX8_isPart 66 = .ok (.ireturn, 1) := by decide +kernel
theorem dX8_isPart_61 : decode cX8_isPart 61 = .ok (.iconst 1, 1) := by decide +kernel
theorem dX8_isPart_62 : decode cX8_isPart 62 = .ok (.goto 4, 3) := by decide +kernel
theorem dX8_isPart_93 : decode cX8_isPart 93 = .ok (.istore_n 3, 1) := by decide +kernel
theorem dX8_isPart_94 : decode cX8_isPart 94 = .ok (.iload_n 3, 1) := by decide +kernel
theorem dX8_isPart_95 : decode cX8_isPart 95 = .ok (.ifCond .ne 11, 3) := by decide +kernel
theorem dX8_isPart_106 : decode cX8_isPart 106 = .ok (.iconst 1, 1) := by decide +kernel
theorem dX8_isPart_107 : decode cX8_isPart 107 = .ok (.goto 4, 3) := by decide +kernel
theorem dX8_isPart_111 : decode cX8_isPart 111 = .ok (.ireturn, 1) := by decide +kernel
theorem dX8_isPart_98 : decode cX8_isPart 98 = .ok (.aload_n 0, 1) := by decide +kernel
theorem dX8_isPart_99 : decode cX8_isPart 99 = .ok (.iload_n 1, 1) := by decide +kernel
theorem kX8_isName : h_ml mX8_isName 1 := ⟨h_t7 50 rfl rfl, h_t1 7 rfl rfl, ⟨by decide, by decide, by decide +kernel⟩, by decide⟩
theorem lX8_125 : Cond.methodLink RX8 125 mX8_isName.1 ∈ lw_g := h_t7 47 rfl rfl
theorem sX8_isName : Cond.instanceMethod mX8_isName.1 ∈ lw_g ∧ Cond.selects mX8_isName.1.cls mX8_isName.1 mX8_isName.1 ∈ lw_g := ⟨h_t7 49 rfl rfl, h_ins 85 rfl⟩
theorem dX8_isPart_100 : decode cX8_isPart 100 = .ok (.invokevirtual 125, 3) := by decide +kernel
theorem dX8_isPart_103 : decode cX8_isPart 103 = .ok (.ifCond .eq 7, 3) := by decide +kernel
theorem dX8_isPart_110 : decode cX8_isPart 110 = .ok (.iconst 0, 1) := by decide +kernel
theorem dX8_isPart_0 : decode cX8_isPart 0 = .ok (.iload_n 1, 1) := by decide +kernel
theorem dX8_isPart_1 : decode cX8_isPart 1 = .ok (.aload_n 0, 1) := by decide +kernel
theorem dX8_isPart_2 : decode cX8_isPart 2 = .ok (.getfield 14, 3) := by decide +kernel
theorem dX8_isPart_5 : decode cX8_isPart 5 = .ok (.getfield 75, 3) := by decide +kernel
theorem dX8_isPart_8 : decode cX8_isPart 8 = .ok (.if_icmp .ge 7, 3) := by decide +kernel
theorem dX8_isPart_11 : decode cX8_isPart 11 = .ok (.iload_n 2, 1) := by decide +kernel
theorem dX8_isPart_12 : decode cX8_isPart 12 = .ok (.ifCond .ne 24, 3) := by decide +kernel
theorem dX8_isPart_36 : decode cX8_isPart 36 = .ok (.iload_n 2, 1) := by decide +kernel
theorem dX8_isPart_37 : decode cX8_isPart 37 = .ok (.iconst 3, 1) := by decide +kernel
theorem dX8_isPart_38 : decode cX8_isPart 38 = .ok (.if_icmp .eq 13, 3) := by decide +kernel
theorem dX8_isPart_41 : decode cX8_isPart 41 = .ok (.aload_n 0, 1) := by decide +kernel
theorem dX8_isPart_42 : decode cX8_isPart 42 = .ok (.getfield 18, 3) := by decide +kernel
theorem dX8_isPart_45 : decode cX8_isPart 45 = .ok (.iload_n 1, 1) := by decide +kernel
theorem dX8_isPart_46 : decode cX8_isPart 46 = .ok (.iaload, 1) := by decide +kernel
theorem dX8_isPart_47 : decode cX8_isPart 47 = .ok (.iconst 3, 1) := by decide +kernel
theorem dX8_isPart_48 : decode cX8_isPart 48 = .ok (.if_icmp .ne 19, 3) := by decide +kernel
theorem dX8_isPart_67 : decode cX8_isPart 67 = .ok (.iload_n 2, 1) := by decide +kernel
theorem dX8_isPart_68 : decode cX8_isPart 68 = .ok (.iconst 2, 1) := by decide +kernel
theorem dX8_isPart_69 : decode cX8_isPart 69 = .ok (.if_icmp .eq 19, 3) := by decide +kernel
theorem dX8_isPart_88 : decode cX8_isPart 88 = .ok (.iconst 1, 1) := by decide +kernel
theorem dX8_isPart_89 : decode cX8_isPart 89 = .ok (.goto 4, 3) := by decide +kernel
theorem dX8_isPart_72 : decode cX8_isPart 72 = .ok (.iload_n 2, 1) := by decide +kernel
theorem dX8_isPart_73 : decode cX8_isPart 73 = .ok (.iconst 4, 1) := by decide +kernel
theorem dX8_isPart_74 : decode cX8_isPart 74 = .ok (.if_icmp .ne 18, 3) := by decide +kernel
theorem dX8_isPart_92 : decode cX8_isPart 92 = .ok (.iconst 0, 1) := by decide +kernel
theorem dX8_isPart_77 : decode cX8_isPart 77 = .ok (.aload_n 0, 1) := by decide +kernel
theorem dX8_isPart_78 : decode cX8_isPart 78 = .ok (.getfield 14, 3) := by decide +kernel
theorem dX8_isPart_81 : decode cX8_isPart 81 = .ok (.iload_n 1, 1) := by decide +kernel
theorem dX8_isPart_82 : decode cX8_isPart 82 = .ok (.invokevirtual 122, 3) := by decide +kernel
theorem dX8_isPart_85 : decode cX8_isPart 85 = .ok (.ifCond .ne 7, 3) := by decide +kernel
def fb_X8_isPart_15  (k0 : Nat) (x1 : Int32) (x2 : Int32) (s : uS) : Option Bool := if x1 < (s.I (k0 + 1) 3) then (some false) else (if x2 = 0 then (some true) else (some false))
set_option maxRecDepth 100000 in
set_option maxHeartbeats 4000000 in
theorem xb_X8_isPart_15 {l : Launch} {D : va_G} {A : Nat → ClassId} {B : Nat} {Z : State → Heap → Prop} {vF : Value} (uk : uK B Z vF)   {k0 : Nat} {x1 : Int32} {x2 : Int32} {s : uS} {r : Bool} (hk0 : uSo k0 8) (h : fb_X8_isPart_15  k0 x1 x2 s = some r) : GU l D A B Z mX8_isPart 2 (s, some (.int (bI r))) s 15 [(0, .ref (B + k0)), (1, .int x1), (2, .int x2)] [] := by
  unfold fb_X8_isPart_15 at h
  refine uu_iload_n dX8_isPart_15 rfl (List.mem_of_getElem? (i := 1) rfl) ?_
  refine uu_aload_n dX8_isPart_16 rfl (List.mem_of_getElem? (i := 0) rfl) ?_
  refine uu_getc (ci := 8) (N := 8) fX8_14 (by decide) hk0.is (by decide) (c := 1) (by decide) (k2 := k0 + 1) rfl dX8_isPart_17 ?_
  refine uu_geti (ci := 9) (N := 6) fX8_75 (by decide) (so_parts hk0).is (by decide) (by decide) dX8_isPart_20 ?_
  refine uu_icmp_lt (tgt := 34) dX8_isPart_23 (by decide) (fun c1 => ?_) (fun c1 => ?_)
  · replace h := uu_pos c1 h
    refine uu_iconst (v := 0) dX8_isPart_34 (by decide) ?_
    have hr := Option.some.inj h
    subst hr
    exact uu_zret (x := bI false) rfl (bI_z _) dX8_isPart_35
  · replace h := uu_neg c1 h
    refine uu_iload_n dX8_isPart_26 rfl (List.mem_of_getElem? (i := 2) rfl) ?_
    refine uu_if_ne (tgt := 34) dX8_isPart_27 (by decide) (fun c2 => ?_) (fun c2 => ?_)
    · replace h := uu_neg c2 h
      refine uu_iconst (v := 0) dX8_isPart_34 (by decide) ?_
      have hr := Option.some.inj h
      subst hr
      exact uu_zret (x := bI false) rfl (bI_z _) dX8_isPart_35
    · replace h := uu_pos c2 h
      refine uu_iconst (v := 1) dX8_isPart_30 (by decide) ?_
      refine uu_goto (tgt := 35) dX8_isPart_31 (by decide) ?_
      have hr := Option.some.inj h
      subst hr
      exact uu_zret (x := bI true) rfl (bI_z _) dX8_isPart_35
def fb_X8_isPart_51  (k0 : Nat) (x1 : Int32) (x2 : Int32) (s : uS) : Option Bool := (iget 20 s (k0 + 5) x1).bind fun v1 => if x2 = v1 then (some true) else (some false)
set_option maxRecDepth 100000 in
set_option maxHeartbeats 4000000 in
theorem xb_X8_isPart_51 {l : Launch} {D : va_G} {A : Nat → ClassId} {B : Nat} {Z : State → Heap → Prop} {vF : Value} (uk : uK B Z vF)   {k0 : Nat} {x1 : Int32} {x2 : Int32} {s : uS} {r : Bool} (hk0 : uSo k0 8) (h : fb_X8_isPart_51  k0 x1 x2 s = some r) : GU l D A B Z mX8_isPart 2 (s, some (.int (bI r))) s 51 [(0, .ref (B + k0)), (1, .int x1), (2, .int x2)] [] := by
  unfold fb_X8_isPart_51 at h
  refine uu_iload_n dX8_isPart_51 rfl (List.mem_of_getElem? (i := 2) rfl) ?_
  refine uu_aload_n dX8_isPart_52 rfl (List.mem_of_getElem? (i := 0) rfl) ?_
  refine uu_getc (ci := 8) (N := 8) fX8_18 (by decide) hk0.is (by decide) (c := 5) (by decide) (k2 := k0 + 5) rfl dX8_isPart_53 ?_
  refine uu_iload_n dX8_isPart_56 rfl (List.mem_of_getElem? (i := 1) rfl) ?_
  obtain ⟨v1, e2, h⟩ := uu_ob h
  refine uu_iald e2 dX8_isPart_57 ?_
  refine uu_icmp_ne (tgt := 65) dX8_isPart_58 (by decide) (fun c3 => ?_) (fun c3 => ?_)
  · replace h := uu_neg c3 h
    refine uu_iconst (v := 0) dX8_isPart_65 (by decide) ?_
    have hr := Option.some.inj h
    subst hr
    exact uu_zret (x := bI false) rfl (bI_z _) dX8_isPart_66
  · replace h := uu_pos c3 h
    refine uu_iconst (v := 1) dX8_isPart_61 (by decide) ?_
    refine uu_goto (tgt := 66) dX8_isPart_62 (by decide) ?_
    have hr := Option.some.inj h
    subst hr
    exact uu_zret (x := bI true) rfl (bI_z _) dX8_isPart_66
def fb_X8_isPart_93  (k0 : Nat) (x1 : Int32) (bs0 : Bool) (s : uS) : Option Bool := if bs0 = true then (some true) else ((fn_X8_isName k0 x1 s).bind fun v2 => if v2 = true then (some true) else (some false))
set_option maxRecDepth 100000 in
set_option maxHeartbeats 4000000 in
theorem xb_X8_isPart_93 {l : Launch} {D : va_G} {A : Nat → ClassId} {B : Nat} {Z : State → Heap → Prop} {vF : Value} (uk : uK B Z vF)   {k0 : Nat} {x1 : Int32} {bs0 : Bool} {s : uS} {r : Bool} (hk0 : uSo k0 8) (h : fb_X8_isPart_93  k0 x1 bs0 s = some r) : GU l D A B Z mX8_isPart 2 (s, some (.int (bI r))) s 93 [(0, .ref (B + k0)), (1, .int x1)] [.int (bI bs0)] := by
  unfold fb_X8_isPart_93 at h
  refine uu_istore_n dX8_isPart_93 rfl (by decide) rfl ?_
  refine uu_iload_n dX8_isPart_94 rfl (List.mem_of_getElem? (i := 0) rfl) ?_
  refine uu_ifb_ne (tgt := 106) dX8_isPart_95 (by decide) (fun c1 => ?_) (fun c1 => ?_)
  · replace h := uu_pos c1 h
    refine uu_iconst (v := 1) dX8_isPart_106 (by decide) ?_
    refine uu_goto (tgt := 111) dX8_isPart_107 (by decide) ?_
    have hr := Option.some.inj h
    subst hr
    exact uu_zret (x := bI true) rfl (bI_z _) dX8_isPart_111
  · replace h := uu_neg c1 h
    refine uu_aload_n dX8_isPart_98 rfl (List.mem_of_getElem? (i := 1) rfl) ?_
    refine uu_iload_n dX8_isPart_99 rfl (List.mem_of_getElem? (i := 2) rfl) ?_
    obtain ⟨v2, e3, h⟩ := uu_ob h
    refine uu_cv (d1 := 1) (k := k0) (ci := 8) (T := TX8) (N := 8) (As := [.int x1]) (st := []) (st' := [.int (bI v2)]) (xc_X8_isName uk hk0 e3) hk0.is (by decide) rfl kX8_isName lX8_125 sX8_isName (by decide) (Nat.le_of_ble_eq_true rfl) dX8_isPart_100 rfl ?_
    refine uu_ifb_eq (tgt := 110) dX8_isPart_103 (by decide) (fun c4 => ?_) (fun c4 => ?_)
    · replace h := uu_neg c4 h
      refine uu_iconst (v := 0) dX8_isPart_110 (by decide) ?_
      have hr := Option.some.inj h
      subst hr
      exact uu_zret (x := bI false) rfl (bI_z _) dX8_isPart_111
    · replace h := uu_pos c4 h
      refine uu_iconst (v := 1) dX8_isPart_106 (by decide) ?_
      refine uu_goto (tgt := 111) dX8_isPart_107 (by decide) ?_
      have hr := Option.some.inj h
      subst hr
      exact uu_zret (x := bI true) rfl (bI_z _) dX8_isPart_111
def fn_X8_isPart (k0 : Nat) (x1 : Int32) (x2 : Int32) (s : uS) : Option Bool := if (s.I (k0 + 1) 3) ≤ x1 then (fb_X8_isPart_15 k0 x1 x2 s) else (if x2 = 0 then (fb_X8_isPart_15 k0 x1 x2 s) else (if x2 = 3 then (fb_X8_isPart_51 k0 x1 x2 s) else ((iget 20 s (k0 + 5) x1).bind fun v4 => if v4 = 3 then (fb_X8_isPart_51 k0 x1 x2 s) else (if x2 = 2 then (fb_X8_isPart_93 k0 x1 true s) else (if x2 = 4 then ((fn_X9_lengthOf (k0 + 1) x1 s).bind fun v9 => if v9 = 0 then (fb_X8_isPart_93 k0 x1 true s) else (fb_X8_isPart_93 k0 x1 false s)) else (fb_X8_isPart_93 k0 x1 false s))))))
set_option maxRecDepth 100000 in
set_option maxHeartbeats 4000000 in
theorem xc_X8_isPart {l : Launch} {D : va_G} {A : Nat → ClassId} {B : Nat} {Z : State → Heap → Prop} {vF : Value} (uk : uK B Z vF) {k0 : Nat} {x1 : Int32} {x2 : Int32} {s : uS} {r : Bool} (hk0 : uSo k0 8) (h : fn_X8_isPart k0 x1 x2 s = some r) : CU l D A B Z 2 mX8_isPart s [.ref (B + k0), .int x1, .int x2] (s, some (.int (bI r))) := by
  unfold fn_X8_isPart at h
  refine cu_of rfl uk.1.1 (Nat.le_of_ble_eq_true rfl) ?_
  show GU _ _ _ _ _ _ _ _ _ 0 [(0, .ref (B + k0)), (1, .int x1), (2, .int x2)] []
  refine uu_iload_n dX8_isPart_0 rfl (List.mem_of_getElem? (i := 1) rfl) ?_
  refine uu_aload_n dX8_isPart_1 rfl (List.mem_of_getElem? (i := 0) rfl) ?_
  refine uu_getc (ci := 8) (N := 8) fX8_14 (by decide) hk0.is (by decide) (c := 1) (by decide) (k2 := k0 + 1) rfl dX8_isPart_2 ?_
  refine uu_geti (ci := 9) (N := 6) fX8_75 (by decide) (so_parts hk0).is (by decide) (by decide) dX8_isPart_5 ?_
  refine uu_icmp_ge (tgt := 15) dX8_isPart_8 (by decide) (fun c1 => ?_) (fun c1 => ?_)
  · replace h := uu_pos c1 h
    exact xb_X8_isPart_15 uk hk0 h
  · replace h := uu_neg c1 h
    refine uu_iload_n dX8_isPart_11 rfl (List.mem_of_getElem? (i := 2) rfl) ?_
    refine uu_if_ne (tgt := 36) dX8_isPart_12 (by decide) (fun c2 => ?_) (fun c2 => ?_)
    · replace h := uu_neg c2 h
      refine uu_iload_n dX8_isPart_36 rfl (List.mem_of_getElem? (i := 2) rfl) ?_
      refine uu_iconst (v := 3) dX8_isPart_37 (by decide) ?_
      refine uu_icmp_eq (tgt := 51) dX8_isPart_38 (by decide) (fun c3 => ?_) (fun c3 => ?_)
      · replace h := uu_pos c3 h
        exact xb_X8_isPart_51 uk hk0 h
      · replace h := uu_neg c3 h
        refine uu_aload_n dX8_isPart_41 rfl (List.mem_of_getElem? (i := 0) rfl) ?_
        refine uu_getc (ci := 8) (N := 8) fX8_18 (by decide) hk0.is (by decide) (c := 5) (by decide) (k2 := k0 + 5) rfl dX8_isPart_42 ?_
        refine uu_iload_n dX8_isPart_45 rfl (List.mem_of_getElem? (i := 1) rfl) ?_
        obtain ⟨v4, e5, h⟩ := uu_ob h
        refine uu_iald e5 dX8_isPart_46 ?_
        refine uu_iconst (v := 3) dX8_isPart_47 (by decide) ?_
        refine uu_icmp_ne (tgt := 67) dX8_isPart_48 (by decide) (fun c6 => ?_) (fun c6 => ?_)
        · replace h := uu_neg c6 h
          refine uu_iload_n dX8_isPart_67 rfl (List.mem_of_getElem? (i := 2) rfl) ?_
          refine uu_iconst (v := 2) dX8_isPart_68 (by decide) ?_
          refine uu_icmp_eq (tgt := 88) dX8_isPart_69 (by decide) (fun c7 => ?_) (fun c7 => ?_)
          · replace h := uu_pos c7 h
            refine uu_iconst (v := 1) dX8_isPart_88 (by decide) ?_
            refine uu_goto (tgt := 93) dX8_isPart_89 (by decide) ?_
            refine uu_lv [0, 1] (lv' := [(0, .ref (B + k0)), (1, .int x1)]) rfl ?_
            exact xb_X8_isPart_93 uk hk0 h
          · replace h := uu_neg c7 h
            refine uu_iload_n dX8_isPart_72 rfl (List.mem_of_getElem? (i := 2) rfl) ?_
            refine uu_iconst (v := 4) dX8_isPart_73 (by decide) ?_
            refine uu_icmp_ne (tgt := 92) dX8_isPart_74 (by decide) (fun c8 => ?_) (fun c8 => ?_)
            · replace h := uu_neg c8 h
              refine uu_iconst (v := 0) dX8_isPart_92 (by decide) ?_
              refine uu_lv [0, 1] (lv' := [(0, .ref (B + k0)), (1, .int x1)]) rfl ?_
              exact xb_X8_isPart_93 uk hk0 h
            · replace h := uu_pos c8 h
              refine uu_aload_n dX8_isPart_77 rfl (List.mem_of_getElem? (i := 0) rfl) ?_
              refine uu_getc (ci := 8) (N := 8) fX8_14 (by decide) hk0.is (by decide) (c := 1) (by decide) (k2 := k0 + 1) rfl dX8_isPart_78 ?_
              refine uu_iload_n dX8_isPart_81 rfl (List.mem_of_getElem? (i := 1) rfl) ?_
              obtain ⟨v9, e10, h⟩ := uu_ob h
              refine uu_cv (d1 := 0) (k := k0 + 1) (ci := 9) (T := TX9) (N := 6) (As := [.int x1]) (st := []) (st' := [.int v9]) (xc_X9_lengthOf uk (so_parts hk0) e10) (so_parts hk0).is (by decide) rfl kX9_lengthOf lX8_122 sX9_lengthOf (by decide) (Nat.le_of_ble_eq_true rfl) dX8_isPart_82 rfl ?_
              refine uu_if_ne (tgt := 92) dX8_isPart_85 (by decide) (fun c11 => ?_) (fun c11 => ?_)
              · replace h := uu_neg c11 h
                refine uu_iconst (v := 0) dX8_isPart_92 (by decide) ?_
                refine uu_lv [0, 1] (lv' := [(0, .ref (B + k0)), (1, .int x1)]) rfl ?_
                exact xb_X8_isPart_93 uk hk0 h
              · replace h := uu_pos c11 h
                refine uu_iconst (v := 1) dX8_isPart_88 (by decide) ?_
                refine uu_goto (tgt := 93) dX8_isPart_89 (by decide) ?_
                refine uu_lv [0, 1] (lv' := [(0, .ref (B + k0)), (1, .int x1)]) rfl ?_
                exact xb_X8_isPart_93 uk hk0 h
        · replace h := uu_pos c6 h
          exact xb_X8_isPart_51 uk hk0 h
    · replace h := uu_pos c2 h
      exact xb_X8_isPart_15 uk hk0 h
theorem dX8_command_71 : decode cX8_command 71 = .ok (.istore_n 2, 1) := by decide +kernel
theorem dX8_command_72 : decode cX8_command 72 = .ok (.iload_n 2, 1) := by decide +kernel
theorem dX8_command_73 : decode cX8_command 73 = .ok (.ifCond .eq 7, 3) := by decide +kernel
theorem dX8_command_80 : decode cX8_command 80 = .ok (.iconst (-1), 1) := by decide +kernel
theorem dX8_command_81 : decode cX8_command 81 = .ok (.ireturn, 1) := by decide +kernel
theorem dX8_command_76 : decode cX8_command 76 = .ok (.iload_n 1, 1) := by decide +kernel
theorem dX8_command_77 : decode cX8_command 77 = .ok (.goto 4, 3) := by decide +kernel
theorem dX8_command_0 : decode cX8_command 0 = .ok (.ldc 106, 2) := by decide +kernel
theorem dX8_command_2 : decode cX8_command 2 = .ok (.aload_n 0, 1) := by decide +kernel
theorem dX8_command_3 : decode cX8_command 3 = .ok (.getfield 22, 3) := by decide +kernel
theorem dX8_command_6 : decode cX8_command 6 = .ok (.iconst 0, 1) := by decide +kernel
theorem dX8_command_7 : decode cX8_command 7 = .ok (.aload_n 0, 1) := by decide +kernel
theorem dX8_command_8 : decode cX8_command 8 = .ok (.getfield 29, 3) := by decide +kernel
theorem lX8_108 : Cond.methodLink RX8 108 mX9_place.1 ∈ lw_g := h_t7 39 rfl rfl
theorem dX8_command_11 : decode cX8_command 11 = .ok (.invokestatic 108, 3) := by decide +kernel
theorem dX8_command_14 : decode cX8_command 14 = .ok (.istore_n 1, 1) := by decide +kernel
theorem dX8_command_15 : decode cX8_command 15 = .ok (.iload_n 1, 1) := by decide +kernel
theorem dX8_command_16 : decode cX8_command 16 = .ok (.ifCond .lt 11, 3) := by decide +kernel
theorem dX8_command_27 : decode cX8_command 27 = .ok (.iconst (-1), 1) := by decide +kernel
theorem dX8_command_28 : decode cX8_command 28 = .ok (.ireturn, 1) := by decide +kernel
theorem dX8_command_19 : decode cX8_command 19 = .ok (.iload_n 1, 1) := by decide +kernel
theorem gsX8_112 : Cond.fieldLink RX8 112 "SortedMail$ScriptSession" "FIRST_PARTS" "[I" ∈ lw_g := h_t7 40 rfl rfl
theorem dX8_command_20 : decode cX8_command 20 = .ok (.getstatic 112, 3) := by decide +kernel
theorem dX8_command_23 : decode cX8_command 23 = .ok (.arraylength, 1) := by decide +kernel
theorem dX8_command_24 : decode cX8_command 24 = .ok (.if_icmp .lt 5, 3) := by decide +kernel
theorem dX8_command_29 : decode cX8_command 29 = .ok (.aload_n 0, 1) := by decide +kernel
theorem dX8_command_30 : decode cX8_command 30 = .ok (.iconst 0, 1) := by decide +kernel
theorem dX8_command_31 : decode cX8_command 31 = .ok (.getstatic 112, 3) := by decide +kernel
theorem dX8_command_34 : decode cX8_command 34 = .ok (.iload_n 1, 1) := by decide +kernel
theorem dX8_command_35 : decode cX8_command 35 = .ok (.iaload, 1) := by decide +kernel
theorem kX8_isPart : h_ml mX8_isPart 2 := ⟨h_t7 45 rfl rfl, h_t1 7 rfl rfl, ⟨by decide, by decide, by decide +kernel⟩, by decide⟩
theorem lX8_115 : Cond.methodLink RX8 115 mX8_isPart.1 ∈ lw_g := h_t7 42 rfl rfl
theorem sX8_isPart : Cond.instanceMethod mX8_isPart.1 ∈ lw_g ∧ Cond.selects mX8_isPart.1.cls mX8_isPart.1 mX8_isPart.1 ∈ lw_g := ⟨h_t7 44 rfl rfl, h_ins 84 rfl⟩
theorem dX8_command_36 : decode cX8_command 36 = .ok (.invokevirtual 115, 3) := by decide +kernel
theorem dX8_command_39 : decode cX8_command 39 = .ok (.ifCond .eq 31, 3) := by decide +kernel
theorem dX8_command_70 : decode cX8_command 70 = .ok (.iconst 0, 1) := by decide +kernel
theorem dX8_command_42 : decode cX8_command 42 = .ok (.aload_n 0, 1) := by decide +kernel
theorem dX8_command_43 : decode cX8_command 43 = .ok (.iconst 1, 1) := by decide +kernel
theorem gsX8_119 : Cond.fieldLink RX8 119 "SortedMail$ScriptSession" "SECOND_PARTS" "[I" ∈ lw_g := h_t7 51 rfl rfl
theorem dX8_command_44 : decode cX8_command 44 = .ok (.getstatic 119, 3) := by decide +kernel
theorem dX8_command_47 : decode cX8_command 47 = .ok (.iload_n 1, 1) := by decide +kernel
theorem dX8_command_48 : decode cX8_command 48 = .ok (.iaload, 1) := by decide +kernel
theorem dX8_command_49 : decode cX8_command 49 = .ok (.invokevirtual 115, 3) := by decide +kernel
theorem dX8_command_52 : decode cX8_command 52 = .ok (.ifCond .eq 18, 3) := by decide +kernel
theorem dX8_command_55 : decode cX8_command 55 = .ok (.aload_n 0, 1) := by decide +kernel
theorem dX8_command_56 : decode cX8_command 56 = .ok (.getfield 14, 3) := by decide +kernel
theorem dX8_command_59 : decode cX8_command 59 = .ok (.getfield 75, 3) := by decide +kernel
theorem dX8_command_62 : decode cX8_command 62 = .ok (.iconst 3, 1) := by decide +kernel
theorem dX8_command_63 : decode cX8_command 63 = .ok (.if_icmp .ge 7, 3) := by decide +kernel
theorem dX8_command_66 : decode cX8_command 66 = .ok (.iconst 1, 1) := by decide +kernel
theorem dX8_command_67 : decode cX8_command 67 = .ok (.goto 4, 3) := by decide +kernel
def fb_X8_command_71  (x1 : Int32) (bs0 : Bool) (s : uS) : Option Int32 := if bs0 = true then (some x1) else (some (-1 : Int32))
set_option maxRecDepth 100000 in
set_option maxHeartbeats 4000000 in
theorem xb_X8_command_71 {l : Launch} {D : va_G} {A : Nat → ClassId} {B : Nat} {Z : State → Heap → Prop} {vF : Value} (uk : uK B Z vF)   {x1 : Int32} {bs0 : Bool} {s : uS} {r : Int32}  (h : fb_X8_command_71  x1 bs0 s = some r) : GU l D A B Z mX8_command 5 (s, some (.int r)) s 71 [(1, .int x1)] [.int (bI bs0)] := by
  unfold fb_X8_command_71 at h
  refine uu_istore_n dX8_command_71 rfl (by decide) rfl ?_
  refine uu_iload_n dX8_command_72 rfl (List.mem_of_getElem? (i := 0) rfl) ?_
  refine uu_ifb_eq (tgt := 80) dX8_command_73 (by decide) (fun c1 => ?_) (fun c1 => ?_)
  · replace h := uu_neg c1 h
    refine uu_iconst (v := -1) dX8_command_80 (by decide) ?_
    have hr := Option.some.inj h
    subst hr
    exact uu_iret rfl dX8_command_81
  · replace h := uu_pos c1 h
    refine uu_iload_n dX8_command_76 rfl (List.mem_of_getElem? (i := 1) rfl) ?_
    refine uu_goto (tgt := 81) dX8_command_77 (by decide) ?_
    have hr := Option.some.inj h
    subst hr
    exact uu_iret rfl dX8_command_81
def fn_X8_command (k0 : Nat) (s : uS) : Option Int32 := (fn_X9_place kW_67 (k0 + 6) 0 (s.I k0 4) s).bind fun v2 => if v2 < 0 then (some (-1 : Int32)) else (if v2 < (nI kS_4.length) then ((tget kS_4 v2).bind fun v8 => (fn_X8_isPart k0 0 v8 s).bind fun v10 => if v10 = true then ((tget kS_5 v2).bind fun v14 => (fn_X8_isPart k0 1 v14 s).bind fun v16 => if v16 = true then (if (3 : Int32) ≤ (s.I (k0 + 1) 3) then (fb_X8_command_71 v2 false s) else (fb_X8_command_71 v2 true s)) else (fb_X8_command_71 v2 false s)) else (fb_X8_command_71 v2 false s)) else (some (-1 : Int32)))
set_option maxRecDepth 100000 in
set_option maxHeartbeats 4000000 in
theorem xc_X8_command {l : Launch} {D : va_G} {A : Nat → ClassId} {B : Nat} {Z : State → Heap → Prop} {vF : Value} (uk : uK B Z vF) {k0 : Nat} {s : uS} {r : Int32} (hk0 : uSo k0 8) (h : fn_X8_command k0 s = some r) : CU l D A B Z 5 mX8_command s [.ref (B + k0)] (s, some (.int r)) := by
  unfold fn_X8_command at h
  refine cu_of rfl uk.1.1 (Nat.le_of_ble_eq_true rfl) ?_
  show GU _ _ _ _ _ _ _ _ _ 0 [(0, .ref (B + k0))] []
  obtain ⟨cq1, cp1, cv1, cw1⟩ := uk.2.1 67 _ rfl
  refine uu_ldcS cv1 dX8_command_0 ?_
  refine uu_aload_n dX8_command_2 rfl (List.mem_of_getElem? (i := 0) rfl) ?_
  refine uu_getc (ci := 8) (N := 8) fX8_22 (by decide) hk0.is (by decide) (c := 6) (by decide) (k2 := k0 + 6) rfl dX8_command_3 ?_
  refine uu_iconst (v := 0) dX8_command_6 (by decide) ?_
  refine uu_aload_n dX8_command_7 rfl (List.mem_of_getElem? (i := 0) rfl) ?_
  refine uu_geti (ci := 8) (N := 8) fX8_29 (by decide) hk0.is (by decide) (by decide) dX8_command_8 ?_
  obtain ⟨v2, e3, h⟩ := uu_ob h
  refine uu_cs (d1 := 4) (As := [.ref cq1, .ref (B + (k0 + 6)), .int 0, .int (s.I k0 4)]) (st := []) (st' := [.int v2]) (xc_X9_place uk cw1 e3) kX9_place lX8_108 sX9_place (by decide) (Nat.le_of_ble_eq_true rfl) dX8_command_11 rfl ?_
  refine uu_istore_n dX8_command_14 rfl (by decide) rfl ?_
  refine uu_iload_n dX8_command_15 rfl (List.mem_of_getElem? (i := 0) rfl) ?_
  refine uu_if_lt (tgt := 27) dX8_command_16 (by decide) (fun c4 => ?_) (fun c4 => ?_)
  · replace h := uu_pos c4 h
    refine uu_iconst (v := -1) dX8_command_27 (by decide) ?_
    have hr := Option.some.inj h
    subst hr
    exact uu_iret rfl dX8_command_28
  · replace h := uu_neg c4 h
    refine uu_iload_n dX8_command_19 rfl (List.mem_of_getElem? (i := 0) rfl) ?_
    obtain ⟨cq5, hz5, ht5⟩ := uk.2.2 4 _ rfl
    refine uu_gets hz5 gsX8_112 dX8_command_20 ?_
    refine uu_tlen (xs := kS_4) ht5 dX8_command_23 ?_
    refine uu_icmp_lt (tgt := 29) dX8_command_24 (by decide) (fun c6 => ?_) (fun c6 => ?_)
    · replace h := uu_pos c6 h
      refine uu_aload_n dX8_command_29 rfl (List.mem_of_getElem? (i := 1) rfl) ?_
      refine uu_iconst (v := 0) dX8_command_30 (by decide) ?_
      obtain ⟨cq7, hz7, ht7⟩ := uk.2.2 4 _ rfl
      refine uu_gets hz7 gsX8_112 dX8_command_31 ?_
      refine uu_iload_n dX8_command_34 rfl (List.mem_of_getElem? (i := 0) rfl) ?_
      obtain ⟨v8, e9, h⟩ := uu_ob h
      refine uu_ti (xs := kS_4) ht7 e9 dX8_command_35 ?_
      obtain ⟨v10, e11, h⟩ := uu_ob h
      refine uu_cv (d1 := 2) (k := k0) (ci := 8) (T := TX8) (N := 8) (As := [.int 0, .int v8]) (st := []) (st' := [.int (bI v10)]) (xc_X8_isPart uk hk0 e11) hk0.is (by decide) rfl kX8_isPart lX8_115 sX8_isPart (by decide) (Nat.le_of_ble_eq_true rfl) dX8_command_36 rfl ?_
      refine uu_ifb_eq (tgt := 70) dX8_command_39 (by decide) (fun c12 => ?_) (fun c12 => ?_)
      · replace h := uu_neg c12 h
        refine uu_iconst (v := 0) dX8_command_70 (by decide) ?_
        refine uu_lv [0] (lv' := [(1, .int v2)]) rfl ?_
        exact xb_X8_command_71 uk  h
      · replace h := uu_pos c12 h
        refine uu_aload_n dX8_command_42 rfl (List.mem_of_getElem? (i := 1) rfl) ?_
        refine uu_iconst (v := 1) dX8_command_43 (by decide) ?_
        obtain ⟨cq13, hz13, ht13⟩ := uk.2.2 5 _ rfl
        refine uu_gets hz13 gsX8_119 dX8_command_44 ?_
        refine uu_iload_n dX8_command_47 rfl (List.mem_of_getElem? (i := 0) rfl) ?_
        obtain ⟨v14, e15, h⟩ := uu_ob h
        refine uu_ti (xs := kS_5) ht13 e15 dX8_command_48 ?_
        obtain ⟨v16, e17, h⟩ := uu_ob h
        refine uu_cv (d1 := 2) (k := k0) (ci := 8) (T := TX8) (N := 8) (As := [.int 1, .int v14]) (st := []) (st' := [.int (bI v16)]) (xc_X8_isPart uk hk0 e17) hk0.is (by decide) rfl kX8_isPart lX8_115 sX8_isPart (by decide) (Nat.le_of_ble_eq_true rfl) dX8_command_49 rfl ?_
        refine uu_ifb_eq (tgt := 70) dX8_command_52 (by decide) (fun c18 => ?_) (fun c18 => ?_)
        · replace h := uu_neg c18 h
          refine uu_iconst (v := 0) dX8_command_70 (by decide) ?_
          refine uu_lv [0] (lv' := [(1, .int v2)]) rfl ?_
          exact xb_X8_command_71 uk  h
        · replace h := uu_pos c18 h
          refine uu_aload_n dX8_command_55 rfl (List.mem_of_getElem? (i := 1) rfl) ?_
          refine uu_getc (ci := 8) (N := 8) fX8_14 (by decide) hk0.is (by decide) (c := 1) (by decide) (k2 := k0 + 1) rfl dX8_command_56 ?_
          refine uu_geti (ci := 9) (N := 6) fX8_75 (by decide) (so_parts hk0).is (by decide) (by decide) dX8_command_59 ?_
          refine uu_iconst (v := 3) dX8_command_62 (by decide) ?_
          refine uu_icmp_ge (tgt := 70) dX8_command_63 (by decide) (fun c19 => ?_) (fun c19 => ?_)
          · replace h := uu_pos c19 h
            refine uu_iconst (v := 0) dX8_command_70 (by decide) ?_
            refine uu_lv [0] (lv' := [(1, .int v2)]) rfl ?_
            exact xb_X8_command_71 uk  h
          · replace h := uu_neg c19 h
            refine uu_iconst (v := 1) dX8_command_66 (by decide) ?_
            refine uu_goto (tgt := 71) dX8_command_67 (by decide) ?_
            refine uu_lv [0] (lv' := [(1, .int v2)]) rfl ?_
            exact xb_X8_command_71 uk  h
    · replace h := uu_neg c6 h
      refine uu_iconst (v := -1) dX8_command_27 (by decide) ?_
      have hr := Option.some.inj h
      subst hr
      exact uu_iret rfl dX8_command_28
abbrev mX9_drop : hM := (yX9_drop, cX9_drop, 1, none)
theorem dX9_drop_0 : decode cX9_drop 0 = .ok (.aload_n 0, 1) := by decide +kernel
theorem dX9_drop_1 : decode cX9_drop 1 = .ok (.aload_n 0, 1) := by decide +kernel
theorem dX9_drop_2 : decode cX9_drop 2 = .ok (.getfield 24, 3) := by decide +kernel
theorem dX9_drop_5 : decode cX9_drop 5 = .ok (.putfield 27, 3) := by decide +kernel
theorem dX9_drop_8 : decode cX9_drop 8 = .ok (.return_, 1) := by decide +kernel
def fn_X9_drop (k0 : Nat) (s : uS) : Option uS := some (wI s k0 5 (s.I k0 4))
set_option maxRecDepth 100000 in
set_option maxHeartbeats 4000000 in
theorem xc_X9_drop {l : Launch} {D : va_G} {A : Nat → ClassId} {B : Nat} {Z : State → Heap → Prop} {vF : Value} (uk : uK B Z vF) {k0 : Nat} {s : uS} {r : uS} (hk0 : uSo k0 9) (h : fn_X9_drop k0 s = some r) : CU l D A B Z 0 mX9_drop s [.ref (B + k0)] (r, none) := by
  unfold fn_X9_drop at h
  refine cu_of rfl uk.1.1 (Nat.le_of_ble_eq_true rfl) ?_
  show GU _ _ _ _ _ _ _ _ _ 0 [(0, .ref (B + k0))] []
  refine uu_aload_n dX9_drop_0 rfl (List.mem_of_getElem? (i := 0) rfl) ?_
  refine uu_aload_n dX9_drop_1 rfl (List.mem_of_getElem? (i := 0) rfl) ?_
  refine uu_geti (ci := 9) (N := 6) fX9_24 (by decide) hk0.is (by decide) (by decide) dX9_drop_2 ?_
  refine uu_puti (ft := .int) (ci := 9) (N := 6) fX9_27 ptX9 (Or.inl rfl) (by decide) hk0.is (by decide) (by decide) (by decide +kernel) rfl rfl dX9_drop_5 ?_
  have hr := Option.some.inj h
  subst hr
  exact uu_vret rfl dX9_drop_8
abbrev mX9_isSame : hM := (yX9_isSame, cX9_isSame, 4, (some (.boolean)))
theorem dX9_isSame_0 : decode cX9_isSame 0 = .ok (.aload_n 0, 1) := by decide +kernel
theorem dX9_isSame_1 : decode cX9_isSame 1 = .ok (.iload_n 1, 1) := by decide +kernel
theorem dX9_isSame_2 : decode cX9_isSame 2 = .ok (.invokevirtual 81, 3) := by decide +kernel
theorem dX9_isSame_5 : decode cX9_isSame 5 = .ok (.aload_n 2, 1) := by decide +kernel
theorem dX9_isSame_6 : decode cX9_isSame 6 = .ok (.arraylength, 1) := by decide +kernel
theorem dX9_isSame_7 : decode cX9_isSame 7 = .ok (.if_icmp .ne 30, 3) := by decide +kernel
theorem dX9_isSame_37 : decode cX9_isSame 37 = .ok (.iconst 0, 1) := by decide +kernel
theorem dX9_isSame_38 : decode cX9_isSame 38 = .ok (.ireturn, 1) := by decide +kernel
theorem dX9_isSame_10 : decode cX9_isSame 10 = .ok (.aload_n 2, 1) := by decide +kernel
theorem dX9_isSame_11 : decode cX9_isSame 11 = .ok (.arraylength, 1) := by decide +kernel
theorem dX9_isSame_12 : decode cX9_isSame 12 = .ok (.ifCond .eq 21, 3) := by decide +kernel
theorem dX9_isSame_33 : decode cX9_isSame 33 = .ok (.iconst 1, 1) := by decide +kernel
theorem dX9_isSame_34 : decode cX9_isSame 34 = .ok (.goto 4, 3) := by decide +kernel
theorem dX9_isSame_15 : decode cX9_isSame 15 = .ok (.aload_n 0, 1) := by decide +kernel
theorem dX9_isSame_16 : decode cX9_isSame 16 = .ok (.aload_n 0, 1) := by decide +kernel
theorem dX9_isSame_17 : decode cX9_isSame 17 = .ok (.getfield 13, 3) := by decide +kernel
theorem dX9_isSame_20 : decode cX9_isSame 20 = .ok (.iload_n 1, 1) := by decide +kernel
theorem dX9_isSame_21 : decode cX9_isSame 21 = .ok (.iaload, 1) := by decide +kernel
theorem dX9_isSame_22 : decode cX9_isSame 22 = .ok (.aload_n 2, 1) := by decide +kernel
theorem dX9_isSame_23 : decode cX9_isSame 23 = .ok (.iconst 0, 1) := by decide +kernel
theorem dX9_isSame_24 : decode cX9_isSame 24 = .ok (.aload_n 2, 1) := by decide +kernel
theorem dX9_isSame_25 : decode cX9_isSame 25 = .ok (.arraylength, 1) := by decide +kernel
theorem dX9_isSame_26 : decode cX9_isSame 26 = .ok (.iload_n 3, 1) := by decide +kernel
theorem dX9_isSame_27 : decode cX9_isSame 27 = .ok (.invokevirtual 85, 3) := by decide +kernel
theorem dX9_isSame_30 : decode cX9_isSame 30 = .ok (.ifCond .eq 7, 3) := by decide +kernel
def fn_X9_isSame (k0 : Nat) (x1 : Int32) (k2 : Nat) (b3 : Bool) (s : uS) : Option Bool := (fn_X9_lengthOf k0 x1 s).bind fun v1 => (ulen s k2).bind fun v3 => if v1 = v3 then ((ulen s k2).bind fun v6 => if v6 = 0 then (some true) else ((iget 20 s (k0 + 2) x1).bind fun v9 => (ulen s k2).bind fun v11 => (fn_X9_isSameAt k0 v9 k2 0 v11 b3 s).bind fun v13 => if v13 = true then (some true) else (some false))) else (some false)
set_option maxRecDepth 100000 in
set_option maxHeartbeats 4000000 in
theorem xc_X9_isSame {l : Launch} {D : va_G} {A : Nat → ClassId} {B : Nat} {Z : State → Heap → Prop} {vF : Value} (uk : uK B Z vF) {k0 : Nat} {x1 : Int32} {k2 : Nat} {b3 : Bool} {s : uS} {r : Bool} (hk0 : uSo k0 9) (h : fn_X9_isSame k0 x1 k2 b3 s = some r) : CU l D A B Z 1 mX9_isSame s [.ref (B + k0), .int x1, .ref (B + k2), .int (bI b3)] (s, some (.int (bI r))) := by
  unfold fn_X9_isSame at h
  refine cu_of rfl uk.1.1 (Nat.le_of_ble_eq_true rfl) ?_
  show GU _ _ _ _ _ _ _ _ _ 0 [(0, .ref (B + k0)), (1, .int x1), (2, .ref (B + k2)), (3, .int (bI b3))] []
  refine uu_aload_n dX9_isSame_0 rfl (List.mem_of_getElem? (i := 0) rfl) ?_
  refine uu_iload_n dX9_isSame_1 rfl (List.mem_of_getElem? (i := 1) rfl) ?_
  obtain ⟨v1, e2, h⟩ := uu_ob h
  refine uu_cv (d1 := 0) (k := k0) (ci := 9) (T := TX9) (N := 6) (As := [.int x1]) (st := []) (st' := [.int v1]) (xc_X9_lengthOf uk hk0 e2) hk0.is (by decide) rfl kX9_lengthOf lX9_81 sX9_lengthOf (by decide) (Nat.le_of_ble_eq_true rfl) dX9_isSame_2 rfl ?_
  refine uu_aload_n dX9_isSame_5 rfl (List.mem_of_getElem? (i := 2) rfl) ?_
  obtain ⟨v3, e4, h⟩ := uu_ob h
  refine uu_alen e4 dX9_isSame_6 ?_
  refine uu_icmp_ne (tgt := 37) dX9_isSame_7 (by decide) (fun c5 => ?_) (fun c5 => ?_)
  · replace h := uu_neg c5 h
    refine uu_iconst (v := 0) dX9_isSame_37 (by decide) ?_
    have hr := Option.some.inj h
    subst hr
    exact uu_zret (x := bI false) rfl (bI_z _) dX9_isSame_38
  · replace h := uu_pos c5 h
    refine uu_aload_n dX9_isSame_10 rfl (List.mem_of_getElem? (i := 2) rfl) ?_
    obtain ⟨v6, e7, h⟩ := uu_ob h
    refine uu_alen e7 dX9_isSame_11 ?_
    refine uu_if_eq (tgt := 33) dX9_isSame_12 (by decide) (fun c8 => ?_) (fun c8 => ?_)
    · replace h := uu_pos c8 h
      refine uu_iconst (v := 1) dX9_isSame_33 (by decide) ?_
      refine uu_goto (tgt := 38) dX9_isSame_34 (by decide) ?_
      have hr := Option.some.inj h
      subst hr
      exact uu_zret (x := bI true) rfl (bI_z _) dX9_isSame_38
    · replace h := uu_neg c8 h
      refine uu_aload_n dX9_isSame_15 rfl (List.mem_of_getElem? (i := 0) rfl) ?_
      refine uu_aload_n dX9_isSame_16 rfl (List.mem_of_getElem? (i := 0) rfl) ?_
      refine uu_getc (ci := 9) (N := 6) fX9_13 (by decide) hk0.is (by decide) (c := 2) (by decide) (k2 := k0 + 2) rfl dX9_isSame_17 ?_
      refine uu_iload_n dX9_isSame_20 rfl (List.mem_of_getElem? (i := 1) rfl) ?_
      obtain ⟨v9, e10, h⟩ := uu_ob h
      refine uu_iald e10 dX9_isSame_21 ?_
      refine uu_aload_n dX9_isSame_22 rfl (List.mem_of_getElem? (i := 2) rfl) ?_
      refine uu_iconst (v := 0) dX9_isSame_23 (by decide) ?_
      refine uu_aload_n dX9_isSame_24 rfl (List.mem_of_getElem? (i := 2) rfl) ?_
      obtain ⟨v11, e12, h⟩ := uu_ob h
      refine uu_alen e12 dX9_isSame_25 ?_
      refine uu_iload_n dX9_isSame_26 rfl (List.mem_of_getElem? (i := 3) rfl) ?_
      obtain ⟨v13, e14, h⟩ := uu_ob h
      refine uu_cv (d1 := 0) (k := k0) (ci := 9) (T := TX9) (N := 6) (As := [.int v9, .ref (B + k2), .int 0, .int v11, .int (bI b3)]) (st := []) (st' := [.int (bI v13)]) (xc_X9_isSameAt uk hk0 e14) hk0.is (by decide) rfl kX9_isSameAt lX9_85 sX9_isSameAt (by decide) (Nat.le_of_ble_eq_true rfl) dX9_isSame_27 rfl ?_
      refine uu_ifb_eq (tgt := 37) dX9_isSame_30 (by decide) (fun c15 => ?_) (fun c15 => ?_)
      · replace h := uu_neg c15 h
        refine uu_iconst (v := 0) dX9_isSame_37 (by decide) ?_
        have hr := Option.some.inj h
        subst hr
        exact uu_zret (x := bI false) rfl (bI_z _) dX9_isSame_38
      · replace h := uu_pos c15 h
        refine uu_iconst (v := 1) dX9_isSame_33 (by decide) ?_
        refine uu_goto (tgt := 38) dX9_isSame_34 (by decide) ?_
        have hr := Option.some.inj h
        subst hr
        exact uu_zret (x := bI true) rfl (bI_z _) dX9_isSame_38
abbrev mX9_raise : hM := (yX9_raise, cX9_raise, 5, none)
theorem dX9_raise_25 : decode cX9_raise 25 = .ok (.iload 4, 2) := by decide +kernel
theorem dX9_raise_27 : decode cX9_raise 27 = .ok (.aload_n 0, 1) := by decide +kernel
theorem dX9_raise_28 : decode cX9_raise 28 = .ok (.getfield 17, 3) := by decide +kernel
theorem dX9_raise_31 : decode cX9_raise 31 = .ok (.iload_n 3, 1) := by decide +kernel
theorem dX9_raise_32 : decode cX9_raise 32 = .ok (.iaload, 1) := by decide +kernel
theorem dX9_raise_33 : decode cX9_raise 33 = .ok (.if_icmp .ge 27, 3) := by decide +kernel
theorem dX9_raise_60 : decode cX9_raise 60 = .ok (.iinc 3 1, 3) := by decide +kernel
theorem dX9_raise_63 : decode cX9_raise 63 = .ok (.goto (-61), 3) := by decide +kernel
theorem dX9_raise_36 : decode cX9_raise 36 = .ok (.aload_n 0, 1) := by decide +kernel
theorem dX9_raise_37 : decode cX9_raise 37 = .ok (.getfield 9, 3) := by decide +kernel
theorem dX9_raise_40 : decode cX9_raise 40 = .ok (.iload 4, 2) := by decide +kernel
theorem dX9_raise_42 : decode cX9_raise 42 = .ok (.aload_n 0, 1) := by decide +kernel
theorem dX9_raise_43 : decode cX9_raise 43 = .ok (.getfield 9, 3) := by decide +kernel
theorem dX9_raise_46 : decode cX9_raise 46 = .ok (.iload 4, 2) := by decide +kernel
theorem dX9_raise_48 : decode cX9_raise 48 = .ok (.baload, 1) := by decide +kernel
theorem dX9_raise_49 : decode cX9_raise 49 = .ok (.invokestatic 89, 3) := by decide +kernel
theorem dX9_raise_52 : decode cX9_raise 52 = .ok (.i2b, 1) := by decide +kernel
theorem dX9_raise_53 : decode cX9_raise 53 = .ok (.bastore, 1) := by decide +kernel
theorem dX9_raise_54 : decode cX9_raise 54 = .ok (.iinc 4 1, 3) := by decide +kernel
theorem dX9_raise_57 : decode cX9_raise 57 = .ok (.goto (-32), 3) := by decide +kernel
theorem dX9_raise_2 : decode cX9_raise 2 = .ok (.iload_n 3, 1) := by decide +kernel
theorem dX9_raise_3 : decode cX9_raise 3 = .ok (.iload_n 1, 1) := by decide +kernel
theorem dX9_raise_4 : decode cX9_raise 4 = .ok (.iload_n 2, 1) := by decide +kernel
theorem dX9_raise_5 : decode cX9_raise 5 = .ok (.iadd, 1) := by decide +kernel
theorem dX9_raise_6 : decode cX9_raise 6 = .ok (.if_icmp .ge 60, 3) := by decide +kernel
theorem dX9_raise_66 : decode cX9_raise 66 = .ok (.return_, 1) := by decide +kernel
theorem dX9_raise_9 : decode cX9_raise 9 = .ok (.iload_n 3, 1) := by decide +kernel
theorem dX9_raise_10 : decode cX9_raise 10 = .ok (.aload_n 0, 1) := by decide +kernel
theorem dX9_raise_11 : decode cX9_raise 11 = .ok (.getfield 20, 3) := by decide +kernel
theorem dX9_raise_14 : decode cX9_raise 14 = .ok (.if_icmp .ge 52, 3) := by decide +kernel
theorem dX9_raise_17 : decode cX9_raise 17 = .ok (.aload_n 0, 1) := by decide +kernel
theorem dX9_raise_18 : decode cX9_raise 18 = .ok (.getfield 13, 3) := by decide +kernel
theorem dX9_raise_21 : decode cX9_raise 21 = .ok (.iload_n 3, 1) := by decide +kernel
theorem dX9_raise_22 : decode cX9_raise 22 = .ok (.iaload, 1) := by decide +kernel
theorem dX9_raise_23 : decode cX9_raise 23 = .ok (.istore 4, 2) := by decide +kernel
theorem dX9_raise_0 : decode cX9_raise 0 = .ok (.iload_n 1, 1) := by decide +kernel
theorem dX9_raise_1 : decode cX9_raise 1 = .ok (.istore_n 3, 1) := by decide +kernel
def fb_X9_raise_25 (K2 : Nat → Int32 → Int32 → Int32 → uS → Option uS) (K25 : Nat → Int32 → Int32 → Int32 → Int32 → uS → Option uS) (k0 : Nat) (x1 : Int32) (x2 : Int32) (x3 : Int32) (x4 : Int32) (s : uS) : Option uS := (iget 20 s (k0 + 3) x3).bind fun v1 => if v1 ≤ x4 then (K2 k0 x1 x2 (x3 + 1) s) else ((iget 21 s (k0 + 1) x4).bind fun v4 => (fn_X9_upper v4 s).bind fun v6 => (iput 21 s (k0 + 1) x4 v6.toInt8.toInt32).bind fun s8 => K25 k0 x1 x2 x3 (x4 + 1) s8)
set_option maxRecDepth 100000 in
set_option maxHeartbeats 4000000 in
theorem xb_X9_raise_25 {l : Launch} {D : va_G} {A : Nat → ClassId} {B : Nat} {Z : State → Heap → Prop} {vF : Value} (uk : uK B Z vF) {K2 : Nat → Int32 → Int32 → Int32 → uS → Option uS} {K25 : Nat → Int32 → Int32 → Int32 → Int32 → uS → Option uS} (hK2 : ∀ (k0 : Nat) (x1 : Int32) (x2 : Int32) (x3 : Int32) (hk0 : uSo k0 9) (s : uS) (r : uS), K2 k0 x1 x2 x3 s = some r → GU l D A B Z mX9_raise 1 (r, none) s 2 [(0, .ref (B + k0)), (1, .int x1), (2, .int x2), (3, .int x3)] []) (hK25 : ∀ (k0 : Nat) (x1 : Int32) (x2 : Int32) (x3 : Int32) (x4 : Int32) (hk0 : uSo k0 9) (s : uS) (r : uS), K25 k0 x1 x2 x3 x4 s = some r → GU l D A B Z mX9_raise 1 (r, none) s 25 [(0, .ref (B + k0)), (1, .int x1), (2, .int x2), (3, .int x3), (4, .int x4)] []) {k0 : Nat} {x1 : Int32} {x2 : Int32} {x3 : Int32} {x4 : Int32} {s : uS} {r : uS} (hk0 : uSo k0 9) (h : fb_X9_raise_25 K2 K25 k0 x1 x2 x3 x4 s = some r) : GU l D A B Z mX9_raise 1 (r, none) s 25 [(0, .ref (B + k0)), (1, .int x1), (2, .int x2), (3, .int x3), (4, .int x4)] [] := by
  unfold fb_X9_raise_25 at h
  refine uu_iload dX9_raise_25 (List.mem_of_getElem? (i := 4) rfl) ?_
  refine uu_aload_n dX9_raise_27 rfl (List.mem_of_getElem? (i := 0) rfl) ?_
  refine uu_getc (ci := 9) (N := 6) fX9_17 (by decide) hk0.is (by decide) (c := 3) (by decide) (k2 := k0 + 3) rfl dX9_raise_28 ?_
  refine uu_iload_n dX9_raise_31 rfl (List.mem_of_getElem? (i := 3) rfl) ?_
  obtain ⟨v1, e2, h⟩ := uu_ob h
  refine uu_iald e2 dX9_raise_32 ?_
  refine uu_icmp_ge (tgt := 60) dX9_raise_33 (by decide) (fun c3 => ?_) (fun c3 => ?_)
  · replace h := uu_pos c3 h
    refine uu_iinc (v := x3 + 1) dX9_raise_60 (k := 3) rfl rfl (by decide) rfl ?_
    refine uu_goto (tgt := 2) dX9_raise_63 (by decide) ?_
    refine uu_lv [1, 2, 3, 0] (lv' := [(0, .ref (B + k0)), (1, .int x1), (2, .int x2), (3, .int (x3 + 1))]) rfl ?_
    exact hK2 k0 x1 x2 (x3 + 1) hk0 _ _ h
  · replace h := uu_neg c3 h
    refine uu_aload_n dX9_raise_36 rfl (List.mem_of_getElem? (i := 0) rfl) ?_
    refine uu_getc (ci := 9) (N := 6) fX9_9 (by decide) hk0.is (by decide) (c := 1) (by decide) (k2 := k0 + 1) rfl dX9_raise_37 ?_
    refine uu_iload dX9_raise_40 (List.mem_of_getElem? (i := 4) rfl) ?_
    refine uu_aload_n dX9_raise_42 rfl (List.mem_of_getElem? (i := 0) rfl) ?_
    refine uu_getc (ci := 9) (N := 6) fX9_9 (by decide) hk0.is (by decide) (c := 1) (by decide) (k2 := k0 + 1) rfl dX9_raise_43 ?_
    refine uu_iload dX9_raise_46 (List.mem_of_getElem? (i := 4) rfl) ?_
    obtain ⟨v4, e5, h⟩ := uu_ob h
    refine uu_bald e5 dX9_raise_48 ?_
    obtain ⟨v6, e7, h⟩ := uu_ob h
    refine uu_cs (d1 := 0) (As := [.int v4]) (st := [.int x4, .ref (B + (k0 + 1))]) (st' := [.int v6, .int x4, .ref (B + (k0 + 1))]) (xc_X9_upper uk  e7) kX9_upper lX9_89 sX9_upper (by decide) (Nat.le_of_ble_eq_true rfl) dX9_raise_49 rfl ?_
    refine uu_i2b dX9_raise_52 rfl ?_
    obtain ⟨s8, e9, h⟩ := uu_ob h
    refine uu_bast e9 dX9_raise_53 ?_
    refine uu_iinc (v := x4 + 1) dX9_raise_54 (k := 4) rfl rfl (by decide) rfl ?_
    refine uu_goto (tgt := 25) dX9_raise_57 (by decide) ?_
    refine uu_lv [1, 2, 3, 4, 0] (lv' := [(0, .ref (B + k0)), (1, .int x1), (2, .int x2), (3, .int x3), (4, .int (x4 + 1))]) rfl ?_
    exact hK25 k0 x1 x2 x3 (x4 + 1) hk0 _ _ h
def fn_X9_raise_25 (K2 : Nat → Int32 → Int32 → Int32 → uS → Option uS) : Nat → Nat → Int32 → Int32 → Int32 → Int32 → uS → Option uS
  | 0 => fun _ _ _ _ _ _ => none
  | n + 1 => fb_X9_raise_25 K2 (fn_X9_raise_25 K2 n)
set_option maxRecDepth 100000 in
set_option maxHeartbeats 4000000 in
theorem xn_X9_raise_25 {l : Launch} {D : va_G} {A : Nat → ClassId} {B : Nat} {Z : State → Heap → Prop} {vF : Value} (uk : uK B Z vF) {K2 : Nat → Int32 → Int32 → Int32 → uS → Option uS} (hK2 : ∀ (k0 : Nat) (x1 : Int32) (x2 : Int32) (x3 : Int32) (hk0 : uSo k0 9) (s : uS) (r : uS), K2 k0 x1 x2 x3 s = some r → GU l D A B Z mX9_raise 1 (r, none) s 2 [(0, .ref (B + k0)), (1, .int x1), (2, .int x2), (3, .int x3)] []) : ∀ (n : Nat) (k0 : Nat) (x1 : Int32) (x2 : Int32) (x3 : Int32) (x4 : Int32) (hk0 : uSo k0 9) (s : uS) (r : uS), fn_X9_raise_25 K2 n k0 x1 x2 x3 x4 s = some r → GU l D A B Z mX9_raise 1 (r, none) s 25 [(0, .ref (B + k0)), (1, .int x1), (2, .int x2), (3, .int x3), (4, .int x4)] [] := by
  intro n
  induction n with
  | zero => intro k0 x1 x2 x3 x4 hk0 s r h
            cases h
  | succ n ih => intro k0 x1 x2 x3 x4 hk0 s r h
                 exact xb_X9_raise_25 uk hK2 ih hk0 h
def fb_X9_raise_2 (K2 : Nat → Int32 → Int32 → Int32 → uS → Option uS) (k0 : Nat) (x1 : Int32) (x2 : Int32) (x3 : Int32) (s : uS) : Option uS := if (x1 + x2) ≤ x3 then (some s) else (if (s.I k0 3) ≤ x3 then (some s) else ((iget 20 s (k0 + 2) x3).bind fun v3 => fn_X9_raise_25 K2 uFu k0 x1 x2 x3 v3 s))
set_option maxRecDepth 100000 in
set_option maxHeartbeats 4000000 in
theorem xb_X9_raise_2 {l : Launch} {D : va_G} {A : Nat → ClassId} {B : Nat} {Z : State → Heap → Prop} {vF : Value} (uk : uK B Z vF) {K2 : Nat → Int32 → Int32 → Int32 → uS → Option uS} (hK2 : ∀ (k0 : Nat) (x1 : Int32) (x2 : Int32) (x3 : Int32) (hk0 : uSo k0 9) (s : uS) (r : uS), K2 k0 x1 x2 x3 s = some r → GU l D A B Z mX9_raise 1 (r, none) s 2 [(0, .ref (B + k0)), (1, .int x1), (2, .int x2), (3, .int x3)] []) {k0 : Nat} {x1 : Int32} {x2 : Int32} {x3 : Int32} {s : uS} {r : uS} (hk0 : uSo k0 9) (h : fb_X9_raise_2 K2 k0 x1 x2 x3 s = some r) : GU l D A B Z mX9_raise 1 (r, none) s 2 [(0, .ref (B + k0)), (1, .int x1), (2, .int x2), (3, .int x3)] [] := by
  unfold fb_X9_raise_2 at h
  refine uu_iload_n dX9_raise_2 rfl (List.mem_of_getElem? (i := 3) rfl) ?_
  refine uu_iload_n dX9_raise_3 rfl (List.mem_of_getElem? (i := 1) rfl) ?_
  refine uu_iload_n dX9_raise_4 rfl (List.mem_of_getElem? (i := 2) rfl) ?_
  refine uu_iadd dX9_raise_5 ?_
  refine uu_icmp_ge (tgt := 66) dX9_raise_6 (by decide) (fun c1 => ?_) (fun c1 => ?_)
  · replace h := uu_pos c1 h
    have hr := Option.some.inj h
    subst hr
    exact uu_vret rfl dX9_raise_66
  · replace h := uu_neg c1 h
    refine uu_iload_n dX9_raise_9 rfl (List.mem_of_getElem? (i := 3) rfl) ?_
    refine uu_aload_n dX9_raise_10 rfl (List.mem_of_getElem? (i := 0) rfl) ?_
    refine uu_geti (ci := 9) (N := 6) fX9_20 (by decide) hk0.is (by decide) (by decide) dX9_raise_11 ?_
    refine uu_icmp_ge (tgt := 66) dX9_raise_14 (by decide) (fun c2 => ?_) (fun c2 => ?_)
    · replace h := uu_pos c2 h
      have hr := Option.some.inj h
      subst hr
      exact uu_vret rfl dX9_raise_66
    · replace h := uu_neg c2 h
      refine uu_aload_n dX9_raise_17 rfl (List.mem_of_getElem? (i := 0) rfl) ?_
      refine uu_getc (ci := 9) (N := 6) fX9_13 (by decide) hk0.is (by decide) (c := 2) (by decide) (k2 := k0 + 2) rfl dX9_raise_18 ?_
      refine uu_iload_n dX9_raise_21 rfl (List.mem_of_getElem? (i := 3) rfl) ?_
      obtain ⟨v3, e4, h⟩ := uu_ob h
      refine uu_iald e4 dX9_raise_22 ?_
      refine uu_istore dX9_raise_23 (by decide) rfl ?_
      refine uu_lv [1, 2, 3, 4, 0] (lv' := [(0, .ref (B + k0)), (1, .int x1), (2, .int x2), (3, .int x3), (4, .int v3)]) rfl ?_
      exact xn_X9_raise_25 uk hK2 _ _ _ _ _ _ hk0 _ _ h
def fn_X9_raise_2  : Nat → Nat → Int32 → Int32 → Int32 → uS → Option uS
  | 0 => fun _ _ _ _ _ => none
  | n + 1 => fb_X9_raise_2 (fn_X9_raise_2  n)
set_option maxRecDepth 100000 in
set_option maxHeartbeats 4000000 in
theorem xn_X9_raise_2 {l : Launch} {D : va_G} {A : Nat → ClassId} {B : Nat} {Z : State → Heap → Prop} {vF : Value} (uk : uK B Z vF)   : ∀ (n : Nat) (k0 : Nat) (x1 : Int32) (x2 : Int32) (x3 : Int32) (hk0 : uSo k0 9) (s : uS) (r : uS), fn_X9_raise_2  n k0 x1 x2 x3 s = some r → GU l D A B Z mX9_raise 1 (r, none) s 2 [(0, .ref (B + k0)), (1, .int x1), (2, .int x2), (3, .int x3)] [] := by
  intro n
  induction n with
  | zero => intro k0 x1 x2 x3 hk0 s r h
            cases h
  | succ n ih => intro k0 x1 x2 x3 hk0 s r h
                 exact xb_X9_raise_2 uk ih hk0 h
def fn_X9_raise (k0 : Nat) (x1 : Int32) (x2 : Int32) (s : uS) : Option uS := fn_X9_raise_2 uFu k0 x1 x2 x1 s
set_option maxRecDepth 100000 in
set_option maxHeartbeats 4000000 in
theorem xc_X9_raise {l : Launch} {D : va_G} {A : Nat → ClassId} {B : Nat} {Z : State → Heap → Prop} {vF : Value} (uk : uK B Z vF) {k0 : Nat} {x1 : Int32} {x2 : Int32} {s : uS} {r : uS} (hk0 : uSo k0 9) (h : fn_X9_raise k0 x1 x2 s = some r) : CU l D A B Z 1 mX9_raise s [.ref (B + k0), .int x1, .int x2] (r, none) := by
  unfold fn_X9_raise at h
  refine cu_of rfl uk.1.1 (Nat.le_of_ble_eq_true rfl) ?_
  show GU _ _ _ _ _ _ _ _ _ 0 [(0, .ref (B + k0)), (1, .int x1), (2, .int x2)] []
  refine uu_iload_n dX9_raise_0 rfl (List.mem_of_getElem? (i := 1) rfl) ?_
  refine uu_istore_n dX9_raise_1 rfl (by decide) rfl ?_
  refine uu_lv [1, 2, 3, 0] (lv' := [(0, .ref (B + k0)), (1, .int x1), (2, .int x2), (3, .int x1)]) rfl ?_
  exact xn_X9_raise_2 uk  _ _ _ _ _ hk0 _ _ h
abbrev mX10_scriptNamed : hM := (yX10_scriptNamed, cX10_scriptNamed, 4, (some (.object "SortedMail$Entry")))
theorem dX10_scriptNamed_2 : decode cX10_scriptNamed 2 = .ok (.iload_n 3, 1) := by decide +kernel
theorem dX10_scriptNamed_3 : decode cX10_scriptNamed 3 = .ok (.aload_n 0, 1) := by decide +kernel
theorem fX10_36 : h_fl RX10 36 10 3 RX10 TX10 6 := ⟨rfl, by decide, inX10, h_t2 138 rfl rfl⟩
theorem dX10_scriptNamed_4 : decode cX10_scriptNamed 4 = .ok (.getfield 36, 3) := by decide +kernel
theorem dX10_scriptNamed_7 : decode cX10_scriptNamed 7 = .ok (.if_icmp .ge 34, 3) := by decide +kernel
theorem dX10_scriptNamed_41 : decode cX10_scriptNamed 41 = .ok (.aconst_null, 1) := by decide +kernel
theorem dX10_scriptNamed_42 : decode cX10_scriptNamed 42 = .ok (.areturn, 1) := by decide +kernel
theorem dX10_scriptNamed_10 : decode cX10_scriptNamed 10 = .ok (.aload_n 1, 1) := by decide +kernel
theorem dX10_scriptNamed_11 : decode cX10_scriptNamed 11 = .ok (.iload_n 2, 1) := by decide +kernel
theorem dX10_scriptNamed_12 : decode cX10_scriptNamed 12 = .ok (.aload_n 0, 1) := by decide +kernel
theorem dX10_scriptNamed_13 : decode cX10_scriptNamed 13 = .ok (.getfield 11, 3) := by decide +kernel
theorem dX10_scriptNamed_16 : decode cX10_scriptNamed 16 = .ok (.iload_n 3, 1) := by decide +kernel
theorem dX10_scriptNamed_17 : decode cX10_scriptNamed 17 = .ok (.aaload, 1) := by decide +kernel
theorem fX10_40 : h_fl RX10 40 1 0 RX1 TX1 6 := ⟨rfl, by decide, inX1, h_t6 155 rfl rfl⟩
theorem dX10_scriptNamed_18 : decode cX10_scriptNamed 18 = .ok (.getfield 40, 3) := by decide +kernel
theorem dX10_scriptNamed_21 : decode cX10_scriptNamed 21 = .ok (.iconst 0, 1) := by decide +kernel
theorem kX9_isSame : h_ml mX9_isSame 3 := ⟨h_t6 104 rfl rfl, h_t1 4 rfl rfl, ⟨by decide, by decide, by decide +kernel⟩, by decide⟩
theorem lX10_44 : Cond.methodLink RX10 44 mX9_isSame.1 ∈ lw_g := h_t6 101 rfl rfl
theorem sX9_isSame : Cond.instanceMethod mX9_isSame.1 ∈ lw_g ∧ Cond.selects mX9_isSame.1.cls mX9_isSame.1 mX9_isSame.1 ∈ lw_g := ⟨h_t6 102 rfl rfl, h_t6 103 rfl rfl⟩
theorem dX10_scriptNamed_22 : decode cX10_scriptNamed 22 = .ok (.invokevirtual 44, 3) := by decide +kernel
theorem dX10_scriptNamed_25 : decode cX10_scriptNamed 25 = .ok (.ifCond .eq 10, 3) := by decide +kernel
theorem dX10_scriptNamed_35 : decode cX10_scriptNamed 35 = .ok (.iinc 3 1, 3) := by decide +kernel
theorem dX10_scriptNamed_38 : decode cX10_scriptNamed 38 = .ok (.goto (-36), 3) := by decide +kernel
theorem dX10_scriptNamed_28 : decode cX10_scriptNamed 28 = .ok (.aload_n 0, 1) := by decide +kernel
theorem dX10_scriptNamed_29 : decode cX10_scriptNamed 29 = .ok (.getfield 11, 3) := by decide +kernel
theorem dX10_scriptNamed_32 : decode cX10_scriptNamed 32 = .ok (.iload_n 3, 1) := by decide +kernel
theorem dX10_scriptNamed_33 : decode cX10_scriptNamed 33 = .ok (.aaload, 1) := by decide +kernel
theorem dX10_scriptNamed_34 : decode cX10_scriptNamed 34 = .ok (.areturn, 1) := by decide +kernel
theorem dX10_scriptNamed_0 : decode cX10_scriptNamed 0 = .ok (.iconst 0, 1) := by decide +kernel
theorem dX10_scriptNamed_1 : decode cX10_scriptNamed 1 = .ok (.istore_n 3, 1) := by decide +kernel
def fb_X10_scriptNamed_2 (K2 : Nat → Nat → Int32 → Int32 → uS → Option (Option Nat)) (k0 : Nat) (k1 : Nat) (x2 : Int32) (x3 : Int32) (s : uS) : Option (Option Nat) := if (s.I k0 3) ≤ x3 then (some none) else ((pgt 27 s (k0 + 1) x3).bind fun j2 => if uIs s j2 1 then ((s.R j2 0).bind fun j5 => if ¬ j5 = 0 then ((fn_X9_isSame k1 x2 j5 false s).bind fun v8 => if v8 = true then ((pgt 27 s (k0 + 1) x3).bind fun j11 => some (some j11)) else (K2 k0 k1 x2 (x3 + 1) s)) else none) else none)
set_option maxRecDepth 100000 in
set_option maxHeartbeats 4000000 in
theorem xb_X10_scriptNamed_2 {l : Launch} {D : va_G} {A : Nat → ClassId} {B : Nat} {Z : State → Heap → Prop} {vF : Value} (uk : uK B Z vF) {K2 : Nat → Nat → Int32 → Int32 → uS → Option (Option Nat)} (hK2 : ∀ (k0 : Nat) (k1 : Nat) (x2 : Int32) (x3 : Int32) (hk0 : uSo k0 10) (hk1 : uSo k1 9) (s : uS) (r : (Option Nat)), K2 k0 k1 x2 x3 s = some r → GU l D A B Z mX10_scriptNamed 2 (s, some (va_rf (r.map (fun x => B + x)))) s 2 [(0, .ref (B + k0)), (1, .ref (B + k1)), (2, .int x2), (3, .int x3)] []) {k0 : Nat} {k1 : Nat} {x2 : Int32} {x3 : Int32} {s : uS} {r : (Option Nat)} (hk0 : uSo k0 10) (hk1 : uSo k1 9) (h : fb_X10_scriptNamed_2 K2 k0 k1 x2 x3 s = some r) : GU l D A B Z mX10_scriptNamed 2 (s, some (va_rf (r.map (fun x => B + x)))) s 2 [(0, .ref (B + k0)), (1, .ref (B + k1)), (2, .int x2), (3, .int x3)] [] := by
  unfold fb_X10_scriptNamed_2 at h
  refine uu_iload_n dX10_scriptNamed_2 rfl (List.mem_of_getElem? (i := 3) rfl) ?_
  refine uu_aload_n dX10_scriptNamed_3 rfl (List.mem_of_getElem? (i := 0) rfl) ?_
  refine uu_geti (ci := 10) (N := 6) fX10_36 (by decide) hk0.is (by decide) (by decide) dX10_scriptNamed_4 ?_
  refine uu_icmp_ge (tgt := 41) dX10_scriptNamed_7 (by decide) (fun c1 => ?_) (fun c1 => ?_)
  · replace h := uu_pos c1 h
    refine uu_null dX10_scriptNamed_41 ?_
    have hr := Option.some.inj h
    subst hr
    exact uu_aret (v := .null) rfl (Or.inl ⟨_, rfl⟩) (Or.inl rfl) dX10_scriptNamed_42
  · replace h := uu_neg c1 h
    refine uu_aload_n dX10_scriptNamed_10 rfl (List.mem_of_getElem? (i := 1) rfl) ?_
    refine uu_iload_n dX10_scriptNamed_11 rfl (List.mem_of_getElem? (i := 2) rfl) ?_
    refine uu_aload_n dX10_scriptNamed_12 rfl (List.mem_of_getElem? (i := 0) rfl) ?_
    refine uu_getc (ci := 10) (N := 6) fX10_11 (by decide) hk0.is (by decide) (c := 1) (by decide) (k2 := k0 + 1) rfl dX10_scriptNamed_13 ?_
    refine uu_iload_n dX10_scriptNamed_16 rfl (List.mem_of_getElem? (i := 3) rfl) ?_
    obtain ⟨j2, e3, h⟩ := uu_ob h
    refine uu_aald (t := 27) rfl (by decide) e3 dX10_scriptNamed_17 ?_
    obtain ⟨g4, h⟩ := uu_grd h
    obtain ⟨j5, e6, h⟩ := uu_ob h
    obtain ⟨g7, h⟩ := uu_grd h
    refine uu_getl (ci := 1) (N := 6) fX10_40 (by decide) g4 (by decide) (by decide) e6 g7 dX10_scriptNamed_18 ?_
    refine uu_iconst (v := 0) dX10_scriptNamed_21 (by decide) ?_
    obtain ⟨v8, e9, h⟩ := uu_ob h
    refine uu_cv (d1 := 1) (k := k1) (ci := 9) (T := TX9) (N := 6) (As := [.int x2, .ref (B + j5), .int 0]) (st := []) (st' := [.int (bI v8)]) (xc_X9_isSame uk hk1 e9) hk1.is (by decide) rfl kX9_isSame lX10_44 sX9_isSame (by decide) (Nat.le_of_ble_eq_true rfl) dX10_scriptNamed_22 rfl ?_
    refine uu_ifb_eq (tgt := 35) dX10_scriptNamed_25 (by decide) (fun c10 => ?_) (fun c10 => ?_)
    · replace h := uu_neg c10 h
      refine uu_iinc (v := x3 + 1) dX10_scriptNamed_35 (k := 3) rfl rfl (by decide) rfl ?_
      refine uu_goto (tgt := 2) dX10_scriptNamed_38 (by decide) ?_
      refine uu_lv [1, 2, 3, 0] (lv' := [(0, .ref (B + k0)), (1, .ref (B + k1)), (2, .int x2), (3, .int (x3 + 1))]) rfl ?_
      exact hK2 k0 k1 x2 (x3 + 1) hk0 hk1 _ _ h
    · replace h := uu_pos c10 h
      refine uu_aload_n dX10_scriptNamed_28 rfl (List.mem_of_getElem? (i := 0) rfl) ?_
      refine uu_getc (ci := 10) (N := 6) fX10_11 (by decide) hk0.is (by decide) (c := 1) (by decide) (k2 := k0 + 1) rfl dX10_scriptNamed_29 ?_
      refine uu_iload_n dX10_scriptNamed_32 rfl (List.mem_of_getElem? (i := 3) rfl) ?_
      obtain ⟨j11, e12, h⟩ := uu_ob h
      refine uu_aald (t := 27) rfl (by decide) e12 dX10_scriptNamed_33 ?_
      have hr := Option.some.inj h
      subst hr
      exact uu_aret (v := .ref (B + j11)) rfl (Or.inl ⟨_, rfl⟩) (Or.inr ⟨_, rfl⟩) dX10_scriptNamed_34
def fn_X10_scriptNamed_2  : Nat → Nat → Nat → Int32 → Int32 → uS → Option (Option Nat)
  | 0 => fun _ _ _ _ _ => none
  | n + 1 => fb_X10_scriptNamed_2 (fn_X10_scriptNamed_2  n)
set_option maxRecDepth 100000 in
set_option maxHeartbeats 4000000 in
theorem xn_X10_scriptNamed_2 {l : Launch} {D : va_G} {A : Nat → ClassId} {B : Nat} {Z : State → Heap → Prop} {vF : Value} (uk : uK B Z vF)   : ∀ (n : Nat) (k0 : Nat) (k1 : Nat) (x2 : Int32) (x3 : Int32) (hk0 : uSo k0 10) (hk1 : uSo k1 9) (s : uS) (r : (Option Nat)), fn_X10_scriptNamed_2  n k0 k1 x2 x3 s = some r → GU l D A B Z mX10_scriptNamed 2 (s, some (va_rf (r.map (fun x => B + x)))) s 2 [(0, .ref (B + k0)), (1, .ref (B + k1)), (2, .int x2), (3, .int x3)] [] := by
  intro n
  induction n with
  | zero => intro k0 k1 x2 x3 hk0 hk1 s r h
            cases h
  | succ n ih => intro k0 k1 x2 x3 hk0 hk1 s r h
                 exact xb_X10_scriptNamed_2 uk ih hk0 hk1 h
def fn_X10_scriptNamed (k0 : Nat) (k1 : Nat) (x2 : Int32) (s : uS) : Option (Option Nat) := fn_X10_scriptNamed_2 uFu k0 k1 x2 0 s
set_option maxRecDepth 100000 in
set_option maxHeartbeats 4000000 in
theorem xc_X10_scriptNamed {l : Launch} {D : va_G} {A : Nat → ClassId} {B : Nat} {Z : State → Heap → Prop} {vF : Value} (uk : uK B Z vF) {k0 : Nat} {k1 : Nat} {x2 : Int32} {s : uS} {r : (Option Nat)} (hk0 : uSo k0 10) (hk1 : uSo k1 9) (h : fn_X10_scriptNamed k0 k1 x2 s = some r) : CU l D A B Z 2 mX10_scriptNamed s [.ref (B + k0), .ref (B + k1), .int x2] (s, some (va_rf (r.map (fun x => B + x)))) := by
  unfold fn_X10_scriptNamed at h
  refine cu_of rfl uk.1.1 (Nat.le_of_ble_eq_true rfl) ?_
  show GU _ _ _ _ _ _ _ _ _ 0 [(0, .ref (B + k0)), (1, .ref (B + k1)), (2, .int x2)] []
  refine uu_iconst (v := 0) dX10_scriptNamed_0 (by decide) ?_
  refine uu_istore_n dX10_scriptNamed_1 rfl (by decide) rfl ?_
  refine uu_lv [1, 2, 3, 0] (lv' := [(0, .ref (B + k0)), (1, .ref (B + k1)), (2, .int x2), (3, .int 0)]) rfl ?_
  exact xn_X10_scriptNamed_2 uk  _ _ _ _ _ hk0 hk1 _ _ h
abbrev mX10_isFull : hM := (yX10_isFull, cX10_isFull, 1, (some (.boolean)))
theorem dX10_isFull_0 : decode cX10_isFull 0 = .ok (.aload_n 0, 1) := by decide +kernel
theorem dX10_isFull_1 : decode cX10_isFull 1 = .ok (.getfield 36, 3) := by decide +kernel
theorem dX10_isFull_4 : decode cX10_isFull 4 = .ok (.iconst 4, 1) := by decide +kernel
theorem dX10_isFull_5 : decode cX10_isFull 5 = .ok (.if_icmp .ne 7, 3) := by decide +kernel
theorem dX10_isFull_12 : decode cX10_isFull 12 = .ok (.iconst 0, 1) := by decide +kernel
theorem dX10_isFull_13 : decode cX10_isFull 13 = .ok (.ireturn, 1) := by decide +kernel
theorem dX10_isFull_8 : decode cX10_isFull 8 = .ok (.iconst 1, 1) := by decide +kernel
theorem dX10_isFull_9 : decode cX10_isFull 9 = .ok (.goto 4, 3) := by decide +kernel
def fn_X10_isFull (k0 : Nat) (s : uS) : Option Bool := if (s.I k0 3) = 4 then (some true) else (some false)
set_option maxRecDepth 100000 in
set_option maxHeartbeats 4000000 in
theorem xc_X10_isFull {l : Launch} {D : va_G} {A : Nat → ClassId} {B : Nat} {Z : State → Heap → Prop} {vF : Value} (uk : uK B Z vF) {k0 : Nat} {s : uS} {r : Bool} (hk0 : uSo k0 10) (h : fn_X10_isFull k0 s = some r) : CU l D A B Z 0 mX10_isFull s [.ref (B + k0)] (s, some (.int (bI r))) := by
  unfold fn_X10_isFull at h
  refine cu_of rfl uk.1.1 (Nat.le_of_ble_eq_true rfl) ?_
  show GU _ _ _ _ _ _ _ _ _ 0 [(0, .ref (B + k0))] []
  refine uu_aload_n dX10_isFull_0 rfl (List.mem_of_getElem? (i := 0) rfl) ?_
  refine uu_geti (ci := 10) (N := 6) fX10_36 (by decide) hk0.is (by decide) (by decide) dX10_isFull_1 ?_
  refine uu_iconst (v := 4) dX10_isFull_4 (by decide) ?_
  refine uu_icmp_ne (tgt := 12) dX10_isFull_5 (by decide) (fun c1 => ?_) (fun c1 => ?_)
  · replace h := uu_neg c1 h
    refine uu_iconst (v := 0) dX10_isFull_12 (by decide) ?_
    have hr := Option.some.inj h
    subst hr
    exact uu_zret (x := bI false) rfl (bI_z _) dX10_isFull_13
  · replace h := uu_pos c1 h
    refine uu_iconst (v := 1) dX10_isFull_8 (by decide) ?_
    refine uu_goto (tgt := 13) dX10_isFull_9 (by decide) ?_
    have hr := Option.some.inj h
    subst hr
    exact uu_zret (x := bI true) rfl (bI_z _) dX10_isFull_13
abbrev mX10_removeScript : hM := (yX10_removeScript, cX10_removeScript, 4, none)
theorem dX10_removeScript_4 : decode cX10_removeScript 4 = .ok (.iload_n 3, 1) := by decide +kernel
theorem dX10_removeScript_5 : decode cX10_removeScript 5 = .ok (.aload_n 0, 1) := by decide +kernel
theorem dX10_removeScript_6 : decode cX10_removeScript 6 = .ok (.getfield 36, 3) := by decide +kernel
theorem dX10_removeScript_9 : decode cX10_removeScript 9 = .ok (.if_icmp .ge 34, 3) := by decide +kernel
theorem dX10_removeScript_43 : decode cX10_removeScript 43 = .ok (.aload_n 0, 1) := by decide +kernel
theorem dX10_removeScript_44 : decode cX10_removeScript 44 = .ok (.iload_n 2, 1) := by decide +kernel
theorem dX10_removeScript_45 : decode cX10_removeScript 45 = .ok (.putfield 36, 3) := by decide +kernel
theorem dX10_removeScript_48 : decode cX10_removeScript 48 = .ok (.return_, 1) := by decide +kernel
theorem dX10_removeScript_12 : decode cX10_removeScript 12 = .ok (.aload_n 0, 1) := by decide +kernel
theorem dX10_removeScript_13 : decode cX10_removeScript 13 = .ok (.getfield 11, 3) := by decide +kernel
theorem dX10_removeScript_16 : decode cX10_removeScript 16 = .ok (.iload_n 3, 1) := by decide +kernel
theorem dX10_removeScript_17 : decode cX10_removeScript 17 = .ok (.aaload, 1) := by decide +kernel
theorem dX10_removeScript_18 : decode cX10_removeScript 18 = .ok (.aload_n 1, 1) := by decide +kernel
theorem dX10_removeScript_19 : decode cX10_removeScript 19 = .ok (.if_acmp .eq 18, 3) := by decide +kernel
theorem dX10_removeScript_37 : decode cX10_removeScript 37 = .ok (.iinc 3 1, 3) := by decide +kernel
theorem dX10_removeScript_40 : decode cX10_removeScript 40 = .ok (.goto (-36), 3) := by decide +kernel
theorem dX10_removeScript_22 : decode cX10_removeScript 22 = .ok (.aload_n 0, 1) := by decide +kernel
theorem dX10_removeScript_23 : decode cX10_removeScript 23 = .ok (.getfield 11, 3) := by decide +kernel
theorem dX10_removeScript_26 : decode cX10_removeScript 26 = .ok (.iload_n 2, 1) := by decide +kernel
theorem dX10_removeScript_27 : decode cX10_removeScript 27 = .ok (.aload_n 0, 1) := by decide +kernel
theorem dX10_removeScript_28 : decode cX10_removeScript 28 = .ok (.getfield 11, 3) := by decide +kernel
theorem dX10_removeScript_31 : decode cX10_removeScript 31 = .ok (.iload_n 3, 1) := by decide +kernel
theorem dX10_removeScript_32 : decode cX10_removeScript 32 = .ok (.aaload, 1) := by decide +kernel
theorem dX10_removeScript_33 : decode cX10_removeScript 33 = .ok (.aastore, 1) := by decide +kernel
theorem dX10_removeScript_34 : decode cX10_removeScript 34 = .ok (.iinc 2 1, 3) := by decide +kernel
theorem dX10_removeScript_0 : decode cX10_removeScript 0 = .ok (.iconst 0, 1) := by decide +kernel
theorem dX10_removeScript_1 : decode cX10_removeScript 1 = .ok (.istore_n 2, 1) := by decide +kernel
theorem dX10_removeScript_2 : decode cX10_removeScript 2 = .ok (.iconst 0, 1) := by decide +kernel
theorem dX10_removeScript_3 : decode cX10_removeScript 3 = .ok (.istore_n 3, 1) := by decide +kernel
def fb_X10_removeScript_4 (K4 : Nat → Option Nat → Int32 → Int32 → uS → Option uS) (k0 : Nat) (o1 : Option Nat) (x2 : Int32) (x3 : Int32) (s : uS) : Option uS := (match o1 with | none => if (s.I k0 3) ≤ x3 then (some (wI s k0 3 x2)) else ((pgt 27 s (k0 + 1) x3).bind fun j2 => if (some j2 : Option Nat) = none then (K4 k0 none x2 (x3 + 1) s) else ((pgt 27 s (k0 + 1) x3).bind fun j5 => (pput s (k0 + 1) x2 j5).bind fun s7 => K4 k0 none (x2 + 1) (x3 + 1) s7)) | some ko1 => if (s.I k0 3) ≤ x3 then (some (wI s k0 3 x2)) else ((pgt 27 s (k0 + 1) x3).bind fun j10 => if (some j10 : Option Nat) = some ko1 then (K4 k0 (some ko1) x2 (x3 + 1) s) else ((pgt 27 s (k0 + 1) x3).bind fun j13 => (pput s (k0 + 1) x2 j13).bind fun s15 => K4 k0 (some ko1) (x2 + 1) (x3 + 1) s15)))
set_option maxRecDepth 100000 in
set_option maxHeartbeats 4000000 in
theorem xb_X10_removeScript_4 {l : Launch} {D : va_G} {A : Nat → ClassId} {B : Nat} {Z : State → Heap → Prop} {vF : Value} (uk : uK B Z vF) {K4 : Nat → Option Nat → Int32 → Int32 → uS → Option uS} (hK4 : ∀ (k0 : Nat) (o1 : Option Nat) (x2 : Int32) (x3 : Int32) (hk0 : uSo k0 10) (s : uS) (r : uS), K4 k0 o1 x2 x3 s = some r → GU l D A B Z mX10_removeScript 0 (r, none) s 4 [(0, .ref (B + k0)), (1, va_rf (o1.map (fun x => B + x))), (2, .int x2), (3, .int x3)] []) {k0 : Nat} {o1 : Option Nat} {x2 : Int32} {x3 : Int32} {s : uS} {r : uS} (hk0 : uSo k0 10) (h : fb_X10_removeScript_4 K4 k0 o1 x2 x3 s = some r) : GU l D A B Z mX10_removeScript 0 (r, none) s 4 [(0, .ref (B + k0)), (1, va_rf (o1.map (fun x => B + x))), (2, .int x2), (3, .int x3)] [] := by
  unfold fb_X10_removeScript_4 at h
  cases o1 with
  | none =>
    refine uu_iload_n dX10_removeScript_4 rfl (List.mem_of_getElem? (i := 3) rfl) ?_
    refine uu_aload_n dX10_removeScript_5 rfl (List.mem_of_getElem? (i := 0) rfl) ?_
    refine uu_geti (ci := 10) (N := 6) fX10_36 (by decide) hk0.is (by decide) (by decide) dX10_removeScript_6 ?_
    refine uu_icmp_ge (tgt := 43) dX10_removeScript_9 (by decide) (fun c1 => ?_) (fun c1 => ?_)
    · replace h := uu_pos c1 h
      refine uu_aload_n dX10_removeScript_43 rfl (List.mem_of_getElem? (i := 0) rfl) ?_
      refine uu_iload_n dX10_removeScript_44 rfl (List.mem_of_getElem? (i := 2) rfl) ?_
      refine uu_puti (ft := .int) (ci := 10) (N := 6) fX10_36 ptX10 (Or.inl rfl) (by decide) hk0.is (by decide) (by decide) (by decide +kernel) rfl rfl dX10_removeScript_45 ?_
      have hr := Option.some.inj h
      subst hr
      exact uu_vret rfl dX10_removeScript_48
    · replace h := uu_neg c1 h
      refine uu_aload_n dX10_removeScript_12 rfl (List.mem_of_getElem? (i := 0) rfl) ?_
      refine uu_getc (ci := 10) (N := 6) fX10_11 (by decide) hk0.is (by decide) (c := 1) (by decide) (k2 := k0 + 1) rfl dX10_removeScript_13 ?_
      refine uu_iload_n dX10_removeScript_16 rfl (List.mem_of_getElem? (i := 3) rfl) ?_
      obtain ⟨j2, e3, h⟩ := uu_ob h
      refine uu_aald (t := 27) rfl (by decide) e3 dX10_removeScript_17 ?_
      refine uu_aload_nN dX10_removeScript_18 rfl (List.mem_of_getElem? (i := 1) rfl) ?_
      refine uu_acmp_eq (tgt := 37) (rx := (Option.map (fun z => B + z) (some j2))) (ry := (Option.map (fun z => B + z) none)) dX10_removeScript_19 (by decide) (fun c4 => ?_) (fun c4 => ?_)
      · replace h := uu_pos (uo_inj c4) h
        refine uu_iinc (v := x3 + 1) dX10_removeScript_37 (k := 3) rfl rfl (by decide) rfl ?_
        refine uu_goto (tgt := 4) dX10_removeScript_40 (by decide) ?_
        refine uu_lv [1, 2, 3, 0] (lv' := [(0, .ref (B + k0)), (1, .null), (2, .int x2), (3, .int (x3 + 1))]) rfl ?_
        exact hK4 k0 none x2 (x3 + 1) hk0 _ _ h
      · replace h := uu_neg (uo_ninj c4) h
        refine uu_aload_n dX10_removeScript_22 rfl (List.mem_of_getElem? (i := 0) rfl) ?_
        refine uu_getc (ci := 10) (N := 6) fX10_11 (by decide) hk0.is (by decide) (c := 1) (by decide) (k2 := k0 + 1) rfl dX10_removeScript_23 ?_
        refine uu_iload_n dX10_removeScript_26 rfl (List.mem_of_getElem? (i := 2) rfl) ?_
        refine uu_aload_n dX10_removeScript_27 rfl (List.mem_of_getElem? (i := 0) rfl) ?_
        refine uu_getc (ci := 10) (N := 6) fX10_11 (by decide) hk0.is (by decide) (c := 1) (by decide) (k2 := k0 + 1) rfl dX10_removeScript_28 ?_
        refine uu_iload_n dX10_removeScript_31 rfl (List.mem_of_getElem? (i := 3) rfl) ?_
        obtain ⟨j5, e6, h⟩ := uu_ob h
        refine uu_aald (t := 27) rfl (by decide) e6 dX10_removeScript_32 ?_
        obtain ⟨s7, e8, h⟩ := uu_ob h
        refine uu_aast e8 dX10_removeScript_33 ?_
        refine uu_iinc (v := x2 + 1) dX10_removeScript_34 (k := 2) rfl rfl (by decide) rfl ?_
        refine uu_iinc (v := x3 + 1) dX10_removeScript_37 (k := 3) rfl rfl (by decide) rfl ?_
        refine uu_goto (tgt := 4) dX10_removeScript_40 (by decide) ?_
        refine uu_lv [2, 3, 1, 0] (lv' := [(0, .ref (B + k0)), (1, .null), (2, .int (x2 + 1)), (3, .int (x3 + 1))]) rfl ?_
        exact hK4 k0 none (x2 + 1) (x3 + 1) hk0 _ _ h
  | some ko1 =>
    refine uu_iload_n dX10_removeScript_4 rfl (List.mem_of_getElem? (i := 3) rfl) ?_
    refine uu_aload_n dX10_removeScript_5 rfl (List.mem_of_getElem? (i := 0) rfl) ?_
    refine uu_geti (ci := 10) (N := 6) fX10_36 (by decide) hk0.is (by decide) (by decide) dX10_removeScript_6 ?_
    refine uu_icmp_ge (tgt := 43) dX10_removeScript_9 (by decide) (fun c9 => ?_) (fun c9 => ?_)
    · replace h := uu_pos c9 h
      refine uu_aload_n dX10_removeScript_43 rfl (List.mem_of_getElem? (i := 0) rfl) ?_
      refine uu_iload_n dX10_removeScript_44 rfl (List.mem_of_getElem? (i := 2) rfl) ?_
      refine uu_puti (ft := .int) (ci := 10) (N := 6) fX10_36 ptX10 (Or.inl rfl) (by decide) hk0.is (by decide) (by decide) (by decide +kernel) rfl rfl dX10_removeScript_45 ?_
      have hr := Option.some.inj h
      subst hr
      exact uu_vret rfl dX10_removeScript_48
    · replace h := uu_neg c9 h
      refine uu_aload_n dX10_removeScript_12 rfl (List.mem_of_getElem? (i := 0) rfl) ?_
      refine uu_getc (ci := 10) (N := 6) fX10_11 (by decide) hk0.is (by decide) (c := 1) (by decide) (k2 := k0 + 1) rfl dX10_removeScript_13 ?_
      refine uu_iload_n dX10_removeScript_16 rfl (List.mem_of_getElem? (i := 3) rfl) ?_
      obtain ⟨j10, e11, h⟩ := uu_ob h
      refine uu_aald (t := 27) rfl (by decide) e11 dX10_removeScript_17 ?_
      refine uu_aload_n dX10_removeScript_18 rfl (List.mem_of_getElem? (i := 1) rfl) ?_
      refine uu_acmp_eq (tgt := 37) (rx := (Option.map (fun z => B + z) (some j10))) (ry := (Option.map (fun z => B + z) (some ko1))) dX10_removeScript_19 (by decide) (fun c12 => ?_) (fun c12 => ?_)
      · replace h := uu_pos (uo_inj c12) h
        refine uu_iinc (v := x3 + 1) dX10_removeScript_37 (k := 3) rfl rfl (by decide) rfl ?_
        refine uu_goto (tgt := 4) dX10_removeScript_40 (by decide) ?_
        refine uu_lv [1, 2, 3, 0] (lv' := [(0, .ref (B + k0)), (1, .ref (B + ko1)), (2, .int x2), (3, .int (x3 + 1))]) rfl ?_
        exact hK4 k0 (some ko1) x2 (x3 + 1) hk0 _ _ h
      · replace h := uu_neg (uo_ninj c12) h
        refine uu_aload_n dX10_removeScript_22 rfl (List.mem_of_getElem? (i := 0) rfl) ?_
        refine uu_getc (ci := 10) (N := 6) fX10_11 (by decide) hk0.is (by decide) (c := 1) (by decide) (k2 := k0 + 1) rfl dX10_removeScript_23 ?_
        refine uu_iload_n dX10_removeScript_26 rfl (List.mem_of_getElem? (i := 2) rfl) ?_
        refine uu_aload_n dX10_removeScript_27 rfl (List.mem_of_getElem? (i := 0) rfl) ?_
        refine uu_getc (ci := 10) (N := 6) fX10_11 (by decide) hk0.is (by decide) (c := 1) (by decide) (k2 := k0 + 1) rfl dX10_removeScript_28 ?_
        refine uu_iload_n dX10_removeScript_31 rfl (List.mem_of_getElem? (i := 3) rfl) ?_
        obtain ⟨j13, e14, h⟩ := uu_ob h
        refine uu_aald (t := 27) rfl (by decide) e14 dX10_removeScript_32 ?_
        obtain ⟨s15, e16, h⟩ := uu_ob h
        refine uu_aast e16 dX10_removeScript_33 ?_
        refine uu_iinc (v := x2 + 1) dX10_removeScript_34 (k := 2) rfl rfl (by decide) rfl ?_
        refine uu_iinc (v := x3 + 1) dX10_removeScript_37 (k := 3) rfl rfl (by decide) rfl ?_
        refine uu_goto (tgt := 4) dX10_removeScript_40 (by decide) ?_
        refine uu_lv [2, 3, 1, 0] (lv' := [(0, .ref (B + k0)), (1, .ref (B + ko1)), (2, .int (x2 + 1)), (3, .int (x3 + 1))]) rfl ?_
        exact hK4 k0 (some ko1) (x2 + 1) (x3 + 1) hk0 _ _ h
def fn_X10_removeScript_4  : Nat → Nat → Option Nat → Int32 → Int32 → uS → Option uS
  | 0 => fun _ _ _ _ _ => none
  | n + 1 => fb_X10_removeScript_4 (fn_X10_removeScript_4  n)
set_option maxRecDepth 100000 in
set_option maxHeartbeats 4000000 in
theorem xn_X10_removeScript_4 {l : Launch} {D : va_G} {A : Nat → ClassId} {B : Nat} {Z : State → Heap → Prop} {vF : Value} (uk : uK B Z vF)   : ∀ (n : Nat) (k0 : Nat) (o1 : Option Nat) (x2 : Int32) (x3 : Int32) (hk0 : uSo k0 10) (s : uS) (r : uS), fn_X10_removeScript_4  n k0 o1 x2 x3 s = some r → GU l D A B Z mX10_removeScript 0 (r, none) s 4 [(0, .ref (B + k0)), (1, va_rf (o1.map (fun x => B + x))), (2, .int x2), (3, .int x3)] [] := by
  intro n
  induction n with
  | zero => intro k0 o1 x2 x3 hk0 s r h
            cases h
  | succ n ih => intro k0 o1 x2 x3 hk0 s r h
                 exact xb_X10_removeScript_4 uk ih hk0 h
def fn_X10_removeScript (k0 : Nat) (o1 : Option Nat) (s : uS) : Option uS := (match o1 with | none => fn_X10_removeScript_4 uFu k0 none 0 0 s | some ko1 => fn_X10_removeScript_4 uFu k0 (some ko1) 0 0 s)
set_option maxRecDepth 100000 in
set_option maxHeartbeats 4000000 in
theorem xc_X10_removeScript {l : Launch} {D : va_G} {A : Nat → ClassId} {B : Nat} {Z : State → Heap → Prop} {vF : Value} (uk : uK B Z vF) {k0 : Nat} {o1 : Option Nat} {s : uS} {r : uS} (hk0 : uSo k0 10) (h : fn_X10_removeScript k0 o1 s = some r) : CU l D A B Z 0 mX10_removeScript s [.ref (B + k0), va_rf (o1.map (fun x => B + x))] (r, none) := by
  unfold fn_X10_removeScript at h
  cases o1 with
  | none =>
    refine cu_of rfl uk.1.1 (Nat.le_of_ble_eq_true rfl) ?_
    show GU _ _ _ _ _ _ _ _ _ 0 [(0, .ref (B + k0)), (1, .null)] []
    refine uu_iconst (v := 0) dX10_removeScript_0 (by decide) ?_
    refine uu_istore_n dX10_removeScript_1 rfl (by decide) rfl ?_
    refine uu_iconst (v := 0) dX10_removeScript_2 (by decide) ?_
    refine uu_istore_n dX10_removeScript_3 rfl (by decide) rfl ?_
    refine uu_lv [2, 3, 1, 0] (lv' := [(0, .ref (B + k0)), (1, .null), (2, .int 0), (3, .int 0)]) rfl ?_
    exact xn_X10_removeScript_4 uk  _ _ _ _ _ hk0 _ _ h
  | some ko1 =>
    refine cu_of rfl uk.1.1 (Nat.le_of_ble_eq_true rfl) ?_
    show GU _ _ _ _ _ _ _ _ _ 0 [(0, .ref (B + k0)), (1, .ref (B + ko1))] []
    refine uu_iconst (v := 0) dX10_removeScript_0 (by decide) ?_
    refine uu_istore_n dX10_removeScript_1 rfl (by decide) rfl ?_
    refine uu_iconst (v := 0) dX10_removeScript_2 (by decide) ?_
    refine uu_istore_n dX10_removeScript_3 rfl (by decide) rfl ?_
    refine uu_lv [2, 3, 1, 0] (lv' := [(0, .ref (B + k0)), (1, .ref (B + ko1)), (2, .int 0), (3, .int 0)]) rfl ?_
    exact xn_X10_removeScript_4 uk  _ _ _ _ _ hk0 _ _ h
abbrev mX10_latestNote : hM := (yX10_latestNote, cX10_latestNote, 5, (some (.object "SortedMail$Entry")))
theorem dX10_latestNote_8 : decode cX10_latestNote 8 = .ok (.iload 4, 2) := by decide +kernel
theorem dX10_latestNote_10 : decode cX10_latestNote 10 = .ok (.ifCond .lt 55, 3) := by decide +kernel
theorem dX10_latestNote_65 : decode cX10_latestNote 65 = .ok (.aconst_null, 1) := by decide +kernel
theorem dX10_latestNote_66 : decode cX10_latestNote 66 = .ok (.areturn, 1) := by decide +kernel
theorem dX10_latestNote_13 : decode cX10_latestNote 13 = .ok (.aload_n 1, 1) := by decide +kernel
theorem dX10_latestNote_14 : decode cX10_latestNote 14 = .ok (.iconst 0, 1) := by decide +kernel
theorem dX10_latestNote_15 : decode cX10_latestNote 15 = .ok (.aload_n 0, 1) := by decide +kernel
theorem dX10_latestNote_16 : decode cX10_latestNote 16 = .ok (.getfield 15, 3) := by decide +kernel
theorem dX10_latestNote_19 : decode cX10_latestNote 19 = .ok (.iload 4, 2) := by decide +kernel
theorem dX10_latestNote_21 : decode cX10_latestNote 21 = .ok (.aaload, 1) := by decide +kernel
theorem dX10_latestNote_22 : decode cX10_latestNote 22 = .ok (.getfield 40, 3) := by decide +kernel
theorem dX10_latestNote_25 : decode cX10_latestNote 25 = .ok (.iconst 1, 1) := by decide +kernel
theorem dX10_latestNote_26 : decode cX10_latestNote 26 = .ok (.invokevirtual 44, 3) := by decide +kernel
theorem dX10_latestNote_29 : decode cX10_latestNote 29 = .ok (.ifCond .eq 30, 3) := by decide +kernel
theorem dX10_latestNote_59 : decode cX10_latestNote 59 = .ok (.iinc 4 (-1), 3) := by decide +kernel
theorem dX10_latestNote_62 : decode cX10_latestNote 62 = .ok (.goto (-54), 3) := by decide +kernel
theorem dX10_latestNote_32 : decode cX10_latestNote 32 = .ok (.aload_n 2, 1) := by decide +kernel
theorem dX10_latestNote_33 : decode cX10_latestNote 33 = .ok (.iload_n 3, 1) := by decide +kernel
theorem dX10_latestNote_34 : decode cX10_latestNote 34 = .ok (.aload_n 0, 1) := by decide +kernel
theorem dX10_latestNote_35 : decode cX10_latestNote 35 = .ok (.getfield 15, 3) := by decide +kernel
theorem dX10_latestNote_38 : decode cX10_latestNote 38 = .ok (.iload 4, 2) := by decide +kernel
theorem dX10_latestNote_40 : decode cX10_latestNote 40 = .ok (.aaload, 1) := by decide +kernel
theorem fX10_52 : h_fl RX10 52 1 1 RX1 TX1 6 := ⟨rfl, by decide, inX1, h_t6 158 rfl rfl⟩
theorem dX10_latestNote_41 : decode cX10_latestNote 41 = .ok (.getfield 52, 3) := by decide +kernel
theorem dX10_latestNote_44 : decode cX10_latestNote 44 = .ok (.iconst 0, 1) := by decide +kernel
theorem dX10_latestNote_45 : decode cX10_latestNote 45 = .ok (.invokevirtual 44, 3) := by decide +kernel
theorem dX10_latestNote_48 : decode cX10_latestNote 48 = .ok (.ifCond .eq 11, 3) := by decide +kernel
theorem dX10_latestNote_51 : decode cX10_latestNote 51 = .ok (.aload_n 0, 1) := by decide +kernel
theorem dX10_latestNote_52 : decode cX10_latestNote 52 = .ok (.getfield 15, 3) := by decide +kernel
theorem dX10_latestNote_55 : decode cX10_latestNote 55 = .ok (.iload 4, 2) := by decide +kernel
theorem dX10_latestNote_57 : decode cX10_latestNote 57 = .ok (.aaload, 1) := by decide +kernel
theorem dX10_latestNote_58 : decode cX10_latestNote 58 = .ok (.areturn, 1) := by decide +kernel
theorem dX10_latestNote_0 : decode cX10_latestNote 0 = .ok (.aload_n 0, 1) := by decide +kernel
theorem fX10_58 : h_fl RX10 58 10 4 RX10 TX10 6 := ⟨rfl, by decide, inX10, h_t2 140 rfl rfl⟩
theorem dX10_latestNote_1 : decode cX10_latestNote 1 = .ok (.getfield 58, 3) := by decide +kernel
theorem dX10_latestNote_4 : decode cX10_latestNote 4 = .ok (.iconst 1, 1) := by decide +kernel
theorem dX10_latestNote_5 : decode cX10_latestNote 5 = .ok (.isub, 1) := by decide +kernel
theorem dX10_latestNote_6 : decode cX10_latestNote 6 = .ok (.istore 4, 2) := by decide +kernel
def fb_X10_latestNote_8 (K8 : Nat → Nat → Nat → Int32 → Int32 → uS → Option (Option Nat)) (k0 : Nat) (k1 : Nat) (k2 : Nat) (x3 : Int32) (x4 : Int32) (s : uS) : Option (Option Nat) := if x4 < 0 then (some none) else ((pgt 27 s (k0 + 2) x4).bind fun j2 => if uIs s j2 1 then ((s.R j2 0).bind fun j5 => if ¬ j5 = 0 then ((fn_X9_isSame k1 0 j5 true s).bind fun v8 => if v8 = true then ((pgt 27 s (k0 + 2) x4).bind fun j11 => if uIs s j11 1 then ((s.R j11 1).bind fun j14 => (fn_X9_isSame k2 x3 j14 false s).bind fun v16 => if v16 = true then ((pgt 27 s (k0 + 2) x4).bind fun j19 => some (some j19)) else (K8 k0 k1 k2 x3 (x4 + (-1)) s)) else none) else (K8 k0 k1 k2 x3 (x4 + (-1)) s)) else none) else none)
set_option maxRecDepth 100000 in
set_option maxHeartbeats 4000000 in
theorem xb_X10_latestNote_8 {l : Launch} {D : va_G} {A : Nat → ClassId} {B : Nat} {Z : State → Heap → Prop} {vF : Value} (uk : uK B Z vF) {K8 : Nat → Nat → Nat → Int32 → Int32 → uS → Option (Option Nat)} (hK8 : ∀ (k0 : Nat) (k1 : Nat) (k2 : Nat) (x3 : Int32) (x4 : Int32) (hk0 : uSo k0 10) (hk1 : uSo k1 9) (hk2 : uSo k2 9) (s : uS) (r : (Option Nat)), K8 k0 k1 k2 x3 x4 s = some r → GU l D A B Z mX10_latestNote 2 (s, some (va_rf (r.map (fun x => B + x)))) s 8 [(0, .ref (B + k0)), (1, .ref (B + k1)), (2, .ref (B + k2)), (3, .int x3), (4, .int x4)] []) {k0 : Nat} {k1 : Nat} {k2 : Nat} {x3 : Int32} {x4 : Int32} {s : uS} {r : (Option Nat)} (hk0 : uSo k0 10) (hk1 : uSo k1 9) (hk2 : uSo k2 9) (h : fb_X10_latestNote_8 K8 k0 k1 k2 x3 x4 s = some r) : GU l D A B Z mX10_latestNote 2 (s, some (va_rf (r.map (fun x => B + x)))) s 8 [(0, .ref (B + k0)), (1, .ref (B + k1)), (2, .ref (B + k2)), (3, .int x3), (4, .int x4)] [] := by
  unfold fb_X10_latestNote_8 at h
  refine uu_iload dX10_latestNote_8 (List.mem_of_getElem? (i := 4) rfl) ?_
  refine uu_if_lt (tgt := 65) dX10_latestNote_10 (by decide) (fun c1 => ?_) (fun c1 => ?_)
  · replace h := uu_pos c1 h
    refine uu_null dX10_latestNote_65 ?_
    have hr := Option.some.inj h
    subst hr
    exact uu_aret (v := .null) rfl (Or.inl ⟨_, rfl⟩) (Or.inl rfl) dX10_latestNote_66
  · replace h := uu_neg c1 h
    refine uu_aload_n dX10_latestNote_13 rfl (List.mem_of_getElem? (i := 1) rfl) ?_
    refine uu_iconst (v := 0) dX10_latestNote_14 (by decide) ?_
    refine uu_aload_n dX10_latestNote_15 rfl (List.mem_of_getElem? (i := 0) rfl) ?_
    refine uu_getc (ci := 10) (N := 6) fX10_15 (by decide) hk0.is (by decide) (c := 2) (by decide) (k2 := k0 + 2) rfl dX10_latestNote_16 ?_
    refine uu_iload dX10_latestNote_19 (List.mem_of_getElem? (i := 4) rfl) ?_
    obtain ⟨j2, e3, h⟩ := uu_ob h
    refine uu_aald (t := 27) rfl (by decide) e3 dX10_latestNote_21 ?_
    obtain ⟨g4, h⟩ := uu_grd h
    obtain ⟨j5, e6, h⟩ := uu_ob h
    obtain ⟨g7, h⟩ := uu_grd h
    refine uu_getl (ci := 1) (N := 6) fX10_40 (by decide) g4 (by decide) (by decide) e6 g7 dX10_latestNote_22 ?_
    refine uu_iconst (v := 1) dX10_latestNote_25 (by decide) ?_
    obtain ⟨v8, e9, h⟩ := uu_ob h
    refine uu_cv (d1 := 1) (k := k1) (ci := 9) (T := TX9) (N := 6) (As := [.int 0, .ref (B + j5), .int 1]) (st := []) (st' := [.int (bI v8)]) (xc_X9_isSame uk hk1 e9) hk1.is (by decide) rfl kX9_isSame lX10_44 sX9_isSame (by decide) (Nat.le_of_ble_eq_true rfl) dX10_latestNote_26 rfl ?_
    refine uu_ifb_eq (tgt := 59) dX10_latestNote_29 (by decide) (fun c10 => ?_) (fun c10 => ?_)
    · replace h := uu_neg c10 h
      refine uu_iinc (v := x4 + (-1)) dX10_latestNote_59 (k := 4) rfl rfl (by decide) rfl ?_
      refine uu_goto (tgt := 8) dX10_latestNote_62 (by decide) ?_
      refine uu_lv [1, 2, 3, 4, 0] (lv' := [(0, .ref (B + k0)), (1, .ref (B + k1)), (2, .ref (B + k2)), (3, .int x3), (4, .int (x4 + (-1)))]) rfl ?_
      exact hK8 k0 k1 k2 x3 (x4 + (-1)) hk0 hk1 hk2 _ _ h
    · replace h := uu_pos c10 h
      refine uu_aload_n dX10_latestNote_32 rfl (List.mem_of_getElem? (i := 2) rfl) ?_
      refine uu_iload_n dX10_latestNote_33 rfl (List.mem_of_getElem? (i := 3) rfl) ?_
      refine uu_aload_n dX10_latestNote_34 rfl (List.mem_of_getElem? (i := 0) rfl) ?_
      refine uu_getc (ci := 10) (N := 6) fX10_15 (by decide) hk0.is (by decide) (c := 2) (by decide) (k2 := k0 + 2) rfl dX10_latestNote_35 ?_
      refine uu_iload dX10_latestNote_38 (List.mem_of_getElem? (i := 4) rfl) ?_
      obtain ⟨j11, e12, h⟩ := uu_ob h
      refine uu_aald (t := 27) rfl (by decide) e12 dX10_latestNote_40 ?_
      obtain ⟨g13, h⟩ := uu_grd h
      obtain ⟨j14, e15, h⟩ := uu_ob h
      refine uu_getr (ci := 1) (N := 6) fX10_52 (by decide) g13 (by decide) (by decide) e15 dX10_latestNote_41 ?_
      refine uu_iconst (v := 0) dX10_latestNote_44 (by decide) ?_
      obtain ⟨v16, e17, h⟩ := uu_ob h
      refine uu_cv (d1 := 1) (k := k2) (ci := 9) (T := TX9) (N := 6) (As := [.int x3, .ref (B + j14), .int 0]) (st := []) (st' := [.int (bI v16)]) (xc_X9_isSame uk hk2 e17) hk2.is (by decide) rfl kX9_isSame lX10_44 sX9_isSame (by decide) (Nat.le_of_ble_eq_true rfl) dX10_latestNote_45 rfl ?_
      refine uu_ifb_eq (tgt := 59) dX10_latestNote_48 (by decide) (fun c18 => ?_) (fun c18 => ?_)
      · replace h := uu_neg c18 h
        refine uu_iinc (v := x4 + (-1)) dX10_latestNote_59 (k := 4) rfl rfl (by decide) rfl ?_
        refine uu_goto (tgt := 8) dX10_latestNote_62 (by decide) ?_
        refine uu_lv [1, 2, 3, 4, 0] (lv' := [(0, .ref (B + k0)), (1, .ref (B + k1)), (2, .ref (B + k2)), (3, .int x3), (4, .int (x4 + (-1)))]) rfl ?_
        exact hK8 k0 k1 k2 x3 (x4 + (-1)) hk0 hk1 hk2 _ _ h
      · replace h := uu_pos c18 h
        refine uu_aload_n dX10_latestNote_51 rfl (List.mem_of_getElem? (i := 0) rfl) ?_
        refine uu_getc (ci := 10) (N := 6) fX10_15 (by decide) hk0.is (by decide) (c := 2) (by decide) (k2 := k0 + 2) rfl dX10_latestNote_52 ?_
        refine uu_iload dX10_latestNote_55 (List.mem_of_getElem? (i := 4) rfl) ?_
        obtain ⟨j19, e20, h⟩ := uu_ob h
        refine uu_aald (t := 27) rfl (by decide) e20 dX10_latestNote_57 ?_
        have hr := Option.some.inj h
        subst hr
        exact uu_aret (v := .ref (B + j19)) rfl (Or.inl ⟨_, rfl⟩) (Or.inr ⟨_, rfl⟩) dX10_latestNote_58
def fn_X10_latestNote_8  : Nat → Nat → Nat → Nat → Int32 → Int32 → uS → Option (Option Nat)
  | 0 => fun _ _ _ _ _ _ => none
  | n + 1 => fb_X10_latestNote_8 (fn_X10_latestNote_8  n)
set_option maxRecDepth 100000 in
set_option maxHeartbeats 4000000 in
theorem xn_X10_latestNote_8 {l : Launch} {D : va_G} {A : Nat → ClassId} {B : Nat} {Z : State → Heap → Prop} {vF : Value} (uk : uK B Z vF)   : ∀ (n : Nat) (k0 : Nat) (k1 : Nat) (k2 : Nat) (x3 : Int32) (x4 : Int32) (hk0 : uSo k0 10) (hk1 : uSo k1 9) (hk2 : uSo k2 9) (s : uS) (r : (Option Nat)), fn_X10_latestNote_8  n k0 k1 k2 x3 x4 s = some r → GU l D A B Z mX10_latestNote 2 (s, some (va_rf (r.map (fun x => B + x)))) s 8 [(0, .ref (B + k0)), (1, .ref (B + k1)), (2, .ref (B + k2)), (3, .int x3), (4, .int x4)] [] := by
  intro n
  induction n with
  | zero => intro k0 k1 k2 x3 x4 hk0 hk1 hk2 s r h
            cases h
  | succ n ih => intro k0 k1 k2 x3 x4 hk0 hk1 hk2 s r h
                 exact xb_X10_latestNote_8 uk ih hk0 hk1 hk2 h
def fn_X10_latestNote (k0 : Nat) (k1 : Nat) (k2 : Nat) (x3 : Int32) (s : uS) : Option (Option Nat) := fn_X10_latestNote_8 uFu k0 k1 k2 x3 ((s.I k0 4) - 1) s
set_option maxRecDepth 100000 in
set_option maxHeartbeats 4000000 in
theorem xc_X10_latestNote {l : Launch} {D : va_G} {A : Nat → ClassId} {B : Nat} {Z : State → Heap → Prop} {vF : Value} (uk : uK B Z vF) {k0 : Nat} {k1 : Nat} {k2 : Nat} {x3 : Int32} {s : uS} {r : (Option Nat)} (hk0 : uSo k0 10) (hk1 : uSo k1 9) (hk2 : uSo k2 9) (h : fn_X10_latestNote k0 k1 k2 x3 s = some r) : CU l D A B Z 2 mX10_latestNote s [.ref (B + k0), .ref (B + k1), .ref (B + k2), .int x3] (s, some (va_rf (r.map (fun x => B + x)))) := by
  unfold fn_X10_latestNote at h
  refine cu_of rfl uk.1.1 (Nat.le_of_ble_eq_true rfl) ?_
  show GU _ _ _ _ _ _ _ _ _ 0 [(0, .ref (B + k0)), (1, .ref (B + k1)), (2, .ref (B + k2)), (3, .int x3)] []
  refine uu_aload_n dX10_latestNote_0 rfl (List.mem_of_getElem? (i := 0) rfl) ?_
  refine uu_geti (ci := 10) (N := 6) fX10_58 (by decide) hk0.is (by decide) (by decide) dX10_latestNote_1 ?_
  refine uu_iconst (v := 1) dX10_latestNote_4 (by decide) ?_
  refine uu_isub dX10_latestNote_5 ?_
  refine uu_istore dX10_latestNote_6 (by decide) rfl ?_
  refine uu_lv [1, 2, 3, 4, 0] (lv' := [(0, .ref (B + k0)), (1, .ref (B + k1)), (2, .ref (B + k2)), (3, .int x3), (4, .int ((s.I k0 4) - 1))]) rfl ?_
  exact xn_X10_latestNote_8 uk  _ _ _ _ _ _ hk0 hk1 hk2 _ _ h
def fb_X11_addToTape_3 (K3 : Int32 → Int32 → uS → Option uS) (x1 : Int32) (x2 : Int32) (s : uS) : Option uS := if x2 < 0 then (some s) else (if (6000 : Int32) ≤ (s.I 0 9) then (some s) else ((iput 21 s 1 (s.I 0 9) ((x1 >>> (x2 &&& 31)).toInt8.toInt32)).bind fun s3 => K3 x1 (x2 + (-8)) (wI s3 0 9 ((s3.I 0 9) + 1))))
set_option maxRecDepth 100000 in
set_option maxHeartbeats 4000000 in
theorem xb_X11_addToTape_3 {l : Launch} {D : va_G} {A : Nat → ClassId} {B : Nat} {Z : State → Heap → Prop} {vF : Value} (uk : uK B Z vF) {K3 : Int32 → Int32 → uS → Option uS} (hK3 : ∀ (x1 : Int32) (x2 : Int32)  (s : uS) (r : uS), K3 x1 x2 s = some r → GU l D A B Z mX11_addToTape 0 (r, none) s 3 [(0, .ref (B + 0)), (1, .int x1), (2, .int x2)] []) {x1 : Int32} {x2 : Int32} {s : uS} {r : uS}  (h : fb_X11_addToTape_3 K3 x1 x2 s = some r) : GU l D A B Z mX11_addToTape 0 (r, none) s 3 [(0, .ref (B + 0)), (1, .int x1), (2, .int x2)] [] := by
  unfold fb_X11_addToTape_3 at h
  refine uu_iload_n dX11_addToTape_3 rfl (List.mem_of_getElem? (i := 2) rfl) ?_
  refine uu_if_lt (tgt := 46) dX11_addToTape_4 (by decide) (fun c1 => ?_) (fun c1 => ?_)
  · replace h := uu_pos c1 h
    have hr := Option.some.inj h
    subst hr
    exact uu_vret rfl dX11_addToTape_46
  · replace h := uu_neg c1 h
    refine uu_aload_n dX11_addToTape_7 rfl (List.mem_of_getElem? (i := 0) rfl) ?_
    refine uu_geti (ci := 11) (N := 17) fX11_88 (by decide) so_0.is (by decide) (by decide) dX11_addToTape_8 ?_
    refine uu_sipush (v := 6000) dX11_addToTape_11 (by decide) ?_
    refine uu_icmp_ge (tgt := 46) dX11_addToTape_14 (by decide) (fun c2 => ?_) (fun c2 => ?_)
    · replace h := uu_pos c2 h
      have hr := Option.some.inj h
      subst hr
      exact uu_vret rfl dX11_addToTape_46
    · replace h := uu_neg c2 h
      refine uu_aload_n dX11_addToTape_17 rfl (List.mem_of_getElem? (i := 0) rfl) ?_
      refine uu_geta (ci := 11) (N := 17) fX11_9 (by decide) so_0.is (by decide) (c := 1) (by decide) dX11_addToTape_18 ?_
      refine uu_aload_n dX11_addToTape_21 rfl (List.mem_of_getElem? (i := 0) rfl) ?_
      refine uu_geti (ci := 11) (N := 17) fX11_88 (by decide) so_0.is (by decide) (by decide) dX11_addToTape_22 ?_
      refine uu_iload_n dX11_addToTape_25 rfl (List.mem_of_getElem? (i := 1) rfl) ?_
      refine uu_iload_n dX11_addToTape_26 rfl (List.mem_of_getElem? (i := 2) rfl) ?_
      refine uu_ishr dX11_addToTape_27 ?_
      refine uu_i2b dX11_addToTape_28 rfl ?_
      obtain ⟨s3, e4, h⟩ := uu_ob h
      refine uu_bast e4 dX11_addToTape_29 ?_
      refine uu_aload_n dX11_addToTape_30 rfl (List.mem_of_getElem? (i := 0) rfl) ?_
      refine uu_dup dX11_addToTape_31 rfl ?_
      refine uu_geti (ci := 11) (N := 17) fX11_88 (by decide) so_0.is (by decide) (by decide) dX11_addToTape_32 ?_
      refine uu_iconst (v := 1) dX11_addToTape_35 (by decide) ?_
      refine uu_iadd dX11_addToTape_36 ?_
      refine uu_puti (ft := .int) (ci := 11) (N := 17) fX11_88 ptX11 (Or.inl rfl) (by decide) so_0.is (by decide) (by decide) (by decide +kernel) rfl rfl dX11_addToTape_37 ?_
      refine uu_iinc (v := x2 + (-8)) dX11_addToTape_40 (k := 2) rfl rfl (by decide) rfl ?_
      refine uu_goto (tgt := 3) dX11_addToTape_43 (by decide) ?_
      refine uu_lv [1, 2, 0] (lv' := [(0, .ref (B + 0)), (1, .int x1), (2, .int (x2 + (-8)))]) rfl ?_
      exact hK3 x1 (x2 + (-8)) _ _ h
def fn_X11_addToTape_3  : Nat → Int32 → Int32 → uS → Option uS
  | 0 => fun _ _ _ => none
  | n + 1 => fb_X11_addToTape_3 (fn_X11_addToTape_3  n)
set_option maxRecDepth 100000 in
set_option maxHeartbeats 4000000 in
theorem xn_X11_addToTape_3 {l : Launch} {D : va_G} {A : Nat → ClassId} {B : Nat} {Z : State → Heap → Prop} {vF : Value} (uk : uK B Z vF)   : ∀ (n : Nat) (x1 : Int32) (x2 : Int32)  (s : uS) (r : uS), fn_X11_addToTape_3  n x1 x2 s = some r → GU l D A B Z mX11_addToTape 0 (r, none) s 3 [(0, .ref (B + 0)), (1, .int x1), (2, .int x2)] [] := by
  intro n
  induction n with
  | zero => intro x1 x2 s r h
            cases h
  | succ n ih => intro x1 x2 s r h
                 exact xb_X11_addToTape_3 uk ih  h
def fn_X11_addToTape (x1 : Int32) (s : uS) : Option uS := fn_X11_addToTape_3 uFu x1 24 s
set_option maxRecDepth 100000 in
set_option maxHeartbeats 4000000 in
theorem xc_X11_addToTape {l : Launch} {D : va_G} {A : Nat → ClassId} {B : Nat} {Z : State → Heap → Prop} {vF : Value} (uk : uK B Z vF) {x1 : Int32} {s : uS} {r : uS}  (h : fn_X11_addToTape x1 s = some r) : CU l D A B Z 0 mX11_addToTape s [.ref (B + 0), .int x1] (r, none) := by
  unfold fn_X11_addToTape at h
  refine cu_of rfl uk.1.1 (Nat.le_of_ble_eq_true rfl) ?_
  show GU _ _ _ _ _ _ _ _ _ 0 [(0, .ref (B + 0)), (1, .int x1)] []
  refine uu_bipush (v := 24) dX11_addToTape_0 (by decide) ?_
  refine uu_istore_n dX11_addToTape_2 rfl (by decide) rfl ?_
  refine uu_lv [1, 2, 0] (lv' := [(0, .ref (B + 0)), (1, .int x1), (2, .int 24)]) rfl ?_
  exact xn_X11_addToTape_3 uk  _ _ _ _ _ h
