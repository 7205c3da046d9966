abbrev mX12_file : hM := (yX12_file, cX12_file, 6, none)
theorem dX12_file_124 : decode cX12_file 124 = .ok (.aload_n 0, 1) := by decide +kernel
theorem dX12_file_125 : decode cX12_file 125 = .ok (.getfield 439, 3) := by decide +kernel
theorem dX12_file_128 : decode cX12_file 128 = .ok (.iload_n 1, 1) := by decide +kernel
theorem dX12_file_129 : decode cX12_file 129 = .ok (.iload_n 2, 1) := by decide +kernel
theorem dX12_file_130 : decode cX12_file 130 = .ok (.iastore, 1) := by decide +kernel
theorem dX12_file_131 : decode cX12_file 131 = .ok (.aload_n 0, 1) := by decide +kernel
theorem dX12_file_132 : decode cX12_file 132 = .ok (.invokevirtual 279, 3) := by decide +kernel
theorem dX12_file_135 : decode cX12_file 135 = .ok (.return_, 1) := by decide +kernel
theorem dX12_file_112 : decode cX12_file 112 = .ok (.iload_n 3, 1) := by decide +kernel
theorem dX12_file_113 : decode cX12_file 113 = .ok (.ifCond .ne 11, 3) := by decide +kernel
theorem dX12_file_116 : decode cX12_file 116 = .ok (.aload_n 0, 1) := by decide +kernel
theorem dX12_file_117 : decode cX12_file 117 = .ok (.aload_n 0, 1) := by decide +kernel
theorem dX12_file_118 : decode cX12_file 118 = .ok (.getfield 199, 3) := by decide +kernel
theorem dX12_file_121 : decode cX12_file 121 = .ok (.invokevirtual 208, 3) := by decide +kernel
theorem dX12_file_41 : decode cX12_file 41 = .ok (.aload_n 0, 1) := by decide +kernel
theorem dX12_file_42 : decode cX12_file 42 = .ok (.getfield 193, 3) := by decide +kernel
theorem dX12_file_45 : decode cX12_file 45 = .ok (.ifCond .ge 67, 3) := by decide +kernel
theorem dX12_file_48 : decode cX12_file 48 = .ok (.iload_n 3, 1) := by decide +kernel
theorem dX12_file_49 : decode cX12_file 49 = .ok (.ifCond .eq 63, 3) := by decide +kernel
theorem dX12_file_52 : decode cX12_file 52 = .ok (.iload 4, 2) := by decide +kernel
theorem dX12_file_54 : decode cX12_file 54 = .ok (.aload_n 0, 1) := by decide +kernel
theorem dX12_file_55 : decode cX12_file 55 = .ok (.getfield 346, 3) := by decide +kernel
theorem dX12_file_58 : decode cX12_file 58 = .ok (.iload_n 2, 1) := by decide +kernel
theorem dX12_file_59 : decode cX12_file 59 = .ok (.iaload, 1) := by decide +kernel
theorem dX12_file_60 : decode cX12_file 60 = .ok (.if_icmp .ge 52, 3) := by decide +kernel
theorem dX12_file_63 : decode cX12_file 63 = .ok (.aload_n 0, 1) := by decide +kernel
theorem dX12_file_64 : decode cX12_file 64 = .ok (.getfield 260, 3) := by decide +kernel
theorem dX12_file_67 : decode cX12_file 67 = .ok (.aload_n 0, 1) := by decide +kernel
theorem dX12_file_68 : decode cX12_file 68 = .ok (.getfield 343, 3) := by decide +kernel
theorem dX12_file_71 : decode cX12_file 71 = .ok (.iload_n 2, 1) := by decide +kernel
theorem dX12_file_72 : decode cX12_file 72 = .ok (.iaload, 1) := by decide +kernel
theorem dX12_file_73 : decode cX12_file 73 = .ok (.iload 4, 2) := by decide +kernel
theorem dX12_file_75 : decode cX12_file 75 = .ok (.iadd, 1) := by decide +kernel
theorem dX12_file_76 : decode cX12_file 76 = .ok (.iaload, 1) := by decide +kernel
theorem dX12_file_77 : decode cX12_file 77 = .ok (.istore 5, 2) := by decide +kernel
theorem dX12_file_79 : decode cX12_file 79 = .ok (.iload 5, 2) := by decide +kernel
theorem dX12_file_81 : decode cX12_file 81 = .ok (.bipush 32, 2) := by decide +kernel
theorem dX12_file_83 : decode cX12_file 83 = .ok (.if_icmp .lt 21, 3) := by decide +kernel
theorem dX12_file_104 : decode cX12_file 104 = .ok (.iconst 0, 1) := by decide +kernel
theorem dX12_file_105 : decode cX12_file 105 = .ok (.istore_n 3, 1) := by decide +kernel
theorem dX12_file_106 : decode cX12_file 106 = .ok (.iinc 4 1, 3) := by decide +kernel
theorem dX12_file_109 : decode cX12_file 109 = .ok (.goto (-68), 3) := by decide +kernel
theorem dX12_file_86 : decode cX12_file 86 = .ok (.iload 5, 2) := by decide +kernel
theorem dX12_file_88 : decode cX12_file 88 = .ok (.bipush 127, 2) := by decide +kernel
theorem dX12_file_90 : decode cX12_file 90 = .ok (.if_icmp .ge 14, 3) := by decide +kernel
theorem dX12_file_93 : decode cX12_file 93 = .ok (.iload 5, 2) := by decide +kernel
theorem dX12_file_95 : decode cX12_file 95 = .ok (.bipush 34, 2) := by decide +kernel
theorem dX12_file_97 : decode cX12_file 97 = .ok (.if_icmp .eq 7, 3) := by decide +kernel
theorem dX12_file_100 : decode cX12_file 100 = .ok (.iconst 1, 1) := by decide +kernel
theorem dX12_file_101 : decode cX12_file 101 = .ok (.goto 4, 3) := by decide +kernel
theorem dX12_file_0 : decode cX12_file 0 = .ok (.aload_n 0, 1) := by decide +kernel
theorem dX12_file_1 : decode cX12_file 1 = .ok (.invokevirtual 349, 3) := by decide +kernel
theorem dX12_file_4 : decode cX12_file 4 = .ok (.istore_n 2, 1) := by decide +kernel
theorem dX12_file_5 : decode cX12_file 5 = .ok (.aload_n 0, 1) := by decide +kernel
theorem dX12_file_6 : decode cX12_file 6 = .ok (.getfield 193, 3) := by decide +kernel
theorem dX12_file_9 : decode cX12_file 9 = .ok (.ifCond .ge 27, 3) := by decide +kernel
theorem dX12_file_36 : decode cX12_file 36 = .ok (.iconst 0, 1) := by decide +kernel
theorem dX12_file_37 : decode cX12_file 37 = .ok (.istore_n 3, 1) := by decide +kernel
theorem dX12_file_38 : decode cX12_file 38 = .ok (.iconst 0, 1) := by decide +kernel
theorem dX12_file_39 : decode cX12_file 39 = .ok (.istore 4, 2) := by decide +kernel
theorem dX12_file_12 : decode cX12_file 12 = .ok (.aload_n 0, 1) := by decide +kernel
theorem dX12_file_13 : decode cX12_file 13 = .ok (.getfield 346, 3) := by decide +kernel
theorem dX12_file_16 : decode cX12_file 16 = .ok (.iload_n 2, 1) := by decide +kernel
theorem dX12_file_17 : decode cX12_file 17 = .ok (.iaload, 1) := by decide +kernel
theorem dX12_file_18 : decode cX12_file 18 = .ok (.ifCond .le 18, 3) := by decide +kernel
theorem dX12_file_21 : decode cX12_file 21 = .ok (.aload_n 0, 1) := by decide +kernel
theorem dX12_file_22 : decode cX12_file 22 = .ok (.getfield 346, 3) := by decide +kernel
theorem dX12_file_25 : decode cX12_file 25 = .ok (.iload_n 2, 1) := by decide +kernel
theorem dX12_file_26 : decode cX12_file 26 = .ok (.iaload, 1) := by decide +kernel
theorem dX12_file_27 : decode cX12_file 27 = .ok (.bipush 20, 2) := by decide +kernel
theorem dX12_file_29 : decode cX12_file 29 = .ok (.if_icmp .gt 7, 3) := by decide +kernel
theorem dX12_file_32 : decode cX12_file 32 = .ok (.iconst 1, 1) := by decide +kernel
theorem dX12_file_33 : decode cX12_file 33 = .ok (.goto 4, 3) := by decide +kernel
def fb_X12_file_124  (x1 : Int32) (x2 : Int32) (s : uS) : Option uS := (iput 20 s 1102 x1 x2).bind fun s1 => (fn_X12_next s1).bind fun s3 => some s3
set_option maxRecDepth 100000 in
set_option maxHeartbeats 4000000 in
theorem xb_X12_file_124 {l : Launch} {D : va_G} {A : Nat → ClassId} {B : Nat} {Z : State → Heap → Prop} {vF : Value} (uk : uK B Z vF)   {x1 : Int32} {x2 : Int32} {s : uS} {r : uS}  (h : fb_X12_file_124  x1 x2 s = some r) : GU l D A B Z mX12_file 8 (r, none) s 124 [(0, .ref (B + 1079)), (1, .int x1), (2, .int x2)] [] := by
  unfold fb_X12_file_124 at h
  refine uu_aload_n dX12_file_124 rfl (List.mem_of_getElem? (i := 0) rfl) ?_
  refine uu_geta (ci := 12) (N := 153) fX12_439 (by decide) so_1079.is (by decide) (c := 1102) (by decide) dX12_file_125 ?_
  refine uu_iload_n dX12_file_128 rfl (List.mem_of_getElem? (i := 1) rfl) ?_
  refine uu_iload_n dX12_file_129 rfl (List.mem_of_getElem? (i := 2) rfl) ?_
  obtain ⟨s1, e2, h⟩ := uu_ob h
  refine uu_iast e2 dX12_file_130 ?_
  refine uu_aload_n dX12_file_131 rfl (List.mem_of_getElem? (i := 0) rfl) ?_
  obtain ⟨s3, e4, h⟩ := uu_ob h
  refine uu_cv (d1 := 7) (k := 1079) (ci := 12) (T := TX12) (N := 153) (As := []) (st := []) (st' := []) (xc_X12_next uk  e4) so_1079.is (by decide) rfl kX12_next lX12_279 sX12_next (by decide) (Nat.le_of_ble_eq_true rfl) dX12_file_132 rfl ?_
  have hr := Option.some.inj h
  subst hr
  exact uu_vret rfl dX12_file_135
def fb_X12_file_112  (x1 : Int32) (x2 : Int32) (b3 : Bool) (s : uS) : Option uS := if b3 = true then (fb_X12_file_124 x1 x2 s) else ((fn_X12_fail (s.I 1079 32) s).bind fun s2 => fb_X12_file_124 x1 x2 s2)
set_option maxRecDepth 100000 in
set_option maxHeartbeats 4000000 in
theorem xb_X12_file_112 {l : Launch} {D : va_G} {A : Nat → ClassId} {B : Nat} {Z : State → Heap → Prop} {vF : Value} (uk : uK B Z vF)   {x1 : Int32} {x2 : Int32} {b3 : Bool} {s : uS} {r : uS}  (h : fb_X12_file_112  x1 x2 b3 s = some r) : GU l D A B Z mX12_file 8 (r, none) s 112 [(0, .ref (B + 1079)), (1, .int x1), (2, .int x2), (3, .int (bI b3))] [] := by
  unfold fb_X12_file_112 at h
  refine uu_iload_n dX12_file_112 rfl (List.mem_of_getElem? (i := 3) rfl) ?_
  refine uu_ifb_ne (tgt := 124) dX12_file_113 (by decide) (fun c1 => ?_) (fun c1 => ?_)
  · replace h := uu_pos c1 h
    refine uu_lv [0, 1, 2] (lv' := [(0, .ref (B + 1079)), (1, .int x1), (2, .int x2)]) rfl ?_
    exact xb_X12_file_124 uk  h
  · replace h := uu_neg c1 h
    refine uu_aload_n dX12_file_116 rfl (List.mem_of_getElem? (i := 0) rfl) ?_
    refine uu_aload_n dX12_file_117 rfl (List.mem_of_getElem? (i := 0) rfl) ?_
    refine uu_geti (ci := 12) (N := 153) fX12_199 (by decide) so_1079.is (by decide) (by decide) dX12_file_118 ?_
    obtain ⟨s2, e3, h⟩ := uu_ob h
    refine uu_cv (d1 := 0) (k := 1079) (ci := 12) (T := TX12) (N := 153) (As := [.int (s.I 1079 32)]) (st := []) (st' := []) (xc_X12_fail uk  e3) so_1079.is (by decide) rfl kX12_fail lX12_208 sX12_fail (by decide) (Nat.le_of_ble_eq_true rfl) dX12_file_121 rfl ?_
    refine uu_lv [0, 1, 2] (lv' := [(0, .ref (B + 1079)), (1, .int x1), (2, .int x2)]) rfl ?_
    exact xb_X12_file_124 uk  h
def fb_X12_file_41 (K41 : Int32 → Int32 → Bool → Int32 → uS → Option uS) (x1 : Int32) (x2 : Int32) (b3 : Bool) (x4 : Int32) (s : uS) : Option uS := if 0 ≤ (s.I 1079 40) then (fb_X12_file_112 x1 x2 b3 s) else (if b3 = true then ((iget 20 s 1117 x2).bind fun v3 => if v3 ≤ x4 then (fb_X12_file_112 x1 x2 b3 s) else ((iget 20 s 1116 x2).bind fun v6 => (iget 20 s 1097 (v6 + x4)).bind fun v8 => if v8 < 32 then (K41 x1 x2 false (x4 + 1) s) else (if (127 : Int32) ≤ v8 then (K41 x1 x2 false (x4 + 1) s) else (if v8 = 34 then (K41 x1 x2 false (x4 + 1) s) else (K41 x1 x2 true (x4 + 1) s))))) else (fb_X12_file_112 x1 x2 b3 s))
set_option maxRecDepth 100000 in
set_option maxHeartbeats 4000000 in
theorem xb_X12_file_41 {l : Launch} {D : va_G} {A : Nat → ClassId} {B : Nat} {Z : State → Heap → Prop} {vF : Value} (uk : uK B Z vF) {K41 : Int32 → Int32 → Bool → Int32 → uS → Option uS} (hK41 : ∀ (x1 : Int32) (x2 : Int32) (b3 : Bool) (x4 : Int32)  (s : uS) (r : uS), K41 x1 x2 b3 x4 s = some r → GU l D A B Z mX12_file 8 (r, none) s 41 [(0, .ref (B + 1079)), (1, .int x1), (2, .int x2), (3, .int (bI b3)), (4, .int x4)] []) {x1 : Int32} {x2 : Int32} {b3 : Bool} {x4 : Int32} {s : uS} {r : uS}  (h : fb_X12_file_41 K41 x1 x2 b3 x4 s = some r) : GU l D A B Z mX12_file 8 (r, none) s 41 [(0, .ref (B + 1079)), (1, .int x1), (2, .int x2), (3, .int (bI b3)), (4, .int x4)] [] := by
  unfold fb_X12_file_41 at h
  refine uu_aload_n dX12_file_41 rfl (List.mem_of_getElem? (i := 0) rfl) ?_
  refine uu_geti (ci := 12) (N := 153) fX12_193 (by decide) so_1079.is (by decide) (by decide) dX12_file_42 ?_
  refine uu_if_ge (tgt := 112) dX12_file_45 (by decide) (fun c1 => ?_) (fun c1 => ?_)
  · replace h := uu_pos c1 h
    refine uu_lv [0, 1, 2, 3] (lv' := [(0, .ref (B + 1079)), (1, .int x1), (2, .int x2), (3, .int (bI b3))]) rfl ?_
    exact xb_X12_file_112 uk  h
  · replace h := uu_neg c1 h
    refine uu_iload_n dX12_file_48 rfl (List.mem_of_getElem? (i := 3) rfl) ?_
    refine uu_ifb_eq (tgt := 112) dX12_file_49 (by decide) (fun c2 => ?_) (fun c2 => ?_)
    · replace h := uu_neg c2 h
      refine uu_lv [0, 1, 2, 3] (lv' := [(0, .ref (B + 1079)), (1, .int x1), (2, .int x2), (3, .int (bI b3))]) rfl ?_
      exact xb_X12_file_112 uk  h
    · replace h := uu_pos c2 h
      refine uu_iload dX12_file_52 (List.mem_of_getElem? (i := 4) rfl) ?_
      refine uu_aload_n dX12_file_54 rfl (List.mem_of_getElem? (i := 0) rfl) ?_
      refine uu_geta (ci := 12) (N := 153) fX12_346 (by decide) so_1079.is (by decide) (c := 1117) (by decide) dX12_file_55 ?_
      refine uu_iload_n dX12_file_58 rfl (List.mem_of_getElem? (i := 2) rfl) ?_
      obtain ⟨v3, e4, h⟩ := uu_ob h
      refine uu_iald e4 dX12_file_59 ?_
      refine uu_icmp_ge (tgt := 112) dX12_file_60 (by decide) (fun c5 => ?_) (fun c5 => ?_)
      · replace h := uu_pos c5 h
        refine uu_lv [0, 1, 2, 3] (lv' := [(0, .ref (B + 1079)), (1, .int x1), (2, .int x2), (3, .int (bI b3))]) rfl ?_
        exact xb_X12_file_112 uk  h
      · replace h := uu_neg c5 h
        refine uu_aload_n dX12_file_63 rfl (List.mem_of_getElem? (i := 0) rfl) ?_
        refine uu_geta (ci := 12) (N := 153) fX12_260 (by decide) so_1079.is (by decide) (c := 1097) (by decide) dX12_file_64 ?_
        refine uu_aload_n dX12_file_67 rfl (List.mem_of_getElem? (i := 0) rfl) ?_
        refine uu_geta (ci := 12) (N := 153) fX12_343 (by decide) so_1079.is (by decide) (c := 1116) (by decide) dX12_file_68 ?_
        refine uu_iload_n dX12_file_71 rfl (List.mem_of_getElem? (i := 2) rfl) ?_
        obtain ⟨v6, e7, h⟩ := uu_ob h
        refine uu_iald e7 dX12_file_72 ?_
        refine uu_iload dX12_file_73 (List.mem_of_getElem? (i := 4) rfl) ?_
        refine uu_iadd dX12_file_75 ?_
        obtain ⟨v8, e9, h⟩ := uu_ob h
        refine uu_iald e9 dX12_file_76 ?_
        refine uu_istore dX12_file_77 (by decide) rfl ?_
        refine uu_iload dX12_file_79 (List.mem_of_getElem? (i := 0) rfl) ?_
        refine uu_bipush (v := 32) dX12_file_81 (by decide) ?_
        refine uu_icmp_lt (tgt := 104) dX12_file_83 (by decide) (fun c10 => ?_) (fun c10 => ?_)
        · replace h := uu_pos c10 h
          refine uu_iconst (v := 0) dX12_file_104 (by decide) ?_
          refine uu_istore_n dX12_file_105 rfl (by decide) rfl ?_
          refine uu_iinc (v := x4 + 1) dX12_file_106 (k := 5) rfl rfl (by decide) rfl ?_
          refine uu_goto (tgt := 41) dX12_file_109 (by decide) ?_
          refine uu_lv [3, 4, 5, 1, 0] (lv' := [(0, .ref (B + 1079)), (1, .int x1), (2, .int x2), (3, .int 0), (4, .int (x4 + 1))]) rfl ?_
          exact hK41 x1 x2 false (x4 + 1) _ _ h
        · replace h := uu_neg c10 h
          refine uu_iload dX12_file_86 (List.mem_of_getElem? (i := 0) rfl) ?_
          refine uu_bipush (v := 127) dX12_file_88 (by decide) ?_
          refine uu_icmp_ge (tgt := 104) dX12_file_90 (by decide) (fun c11 => ?_) (fun c11 => ?_)
          · replace h := uu_pos c11 h
            refine uu_iconst (v := 0) dX12_file_104 (by decide) ?_
            refine uu_istore_n dX12_file_105 rfl (by decide) rfl ?_
            refine uu_iinc (v := x4 + 1) dX12_file_106 (k := 5) rfl rfl (by decide) rfl ?_
            refine uu_goto (tgt := 41) dX12_file_109 (by decide) ?_
            refine uu_lv [3, 4, 5, 1, 0] (lv' := [(0, .ref (B + 1079)), (1, .int x1), (2, .int x2), (3, .int 0), (4, .int (x4 + 1))]) rfl ?_
            exact hK41 x1 x2 false (x4 + 1) _ _ h
          · replace h := uu_neg c11 h
            refine uu_iload dX12_file_93 (List.mem_of_getElem? (i := 0) rfl) ?_
            refine uu_bipush (v := 34) dX12_file_95 (by decide) ?_
            refine uu_icmp_eq (tgt := 104) dX12_file_97 (by decide) (fun c12 => ?_) (fun c12 => ?_)
            · replace h := uu_pos c12 h
              refine uu_iconst (v := 0) dX12_file_104 (by decide) ?_
              refine uu_istore_n dX12_file_105 rfl (by decide) rfl ?_
              refine uu_iinc (v := x4 + 1) dX12_file_106 (k := 5) rfl rfl (by decide) rfl ?_
              refine uu_goto (tgt := 41) dX12_file_109 (by decide) ?_
              refine uu_lv [3, 4, 5, 1, 0] (lv' := [(0, .ref (B + 1079)), (1, .int x1), (2, .int x2), (3, .int 0), (4, .int (x4 + 1))]) rfl ?_
              exact hK41 x1 x2 false (x4 + 1) _ _ h
            · replace h := uu_neg c12 h
              refine uu_iconst (v := 1) dX12_file_100 (by decide) ?_
              refine uu_goto (tgt := 105) dX12_file_101 (by decide) ?_
              refine uu_istore_n dX12_file_105 rfl (by decide) rfl ?_
              refine uu_iinc (v := x4 + 1) dX12_file_106 (k := 5) rfl rfl (by decide) rfl ?_
              refine uu_goto (tgt := 41) dX12_file_109 (by decide) ?_
              refine uu_lv [3, 4, 5, 1, 0] (lv' := [(0, .ref (B + 1079)), (1, .int x1), (2, .int x2), (3, .int 1), (4, .int (x4 + 1))]) rfl ?_
              exact hK41 x1 x2 true (x4 + 1) _ _ h
def fn_X12_file_41  : Nat → Int32 → Int32 → Bool → Int32 → uS → Option uS
  | 0 => fun _ _ _ _ _ => none
  | n + 1 => fb_X12_file_41 (fn_X12_file_41  n)
set_option maxRecDepth 100000 in
set_option maxHeartbeats 4000000 in
theorem xn_X12_file_41 {l : Launch} {D : va_G} {A : Nat → ClassId} {B : Nat} {Z : State → Heap → Prop} {vF : Value} (uk : uK B Z vF)   : ∀ (n : Nat) (x1 : Int32) (x2 : Int32) (b3 : Bool) (x4 : Int32)  (s : uS) (r : uS), fn_X12_file_41  n x1 x2 b3 x4 s = some r → GU l D A B Z mX12_file 8 (r, none) s 41 [(0, .ref (B + 1079)), (1, .int x1), (2, .int x2), (3, .int (bI b3)), (4, .int x4)] [] := by
  intro n
  induction n with
  | zero => intro x1 x2 b3 x4 s r h
            cases h
  | succ n ih => intro x1 x2 b3 x4 s r h
                 exact xb_X12_file_41 uk ih  h
def fn_X12_file (x1 : Int32) (s : uS) : Option uS := (fn_X12_string s).bind fun r1 => if 0 ≤ (r1.1.I 1079 40) then (fn_X12_file_41 uFu x1 r1.2 false 0 r1.1) else ((iget 20 r1.1 1117 r1.2).bind fun v4 => if v4 ≤ 0 then (fn_X12_file_41 uFu x1 r1.2 false 0 r1.1) else ((iget 20 r1.1 1117 r1.2).bind fun v7 => if (20 : Int32) < v7 then (fn_X12_file_41 uFu x1 r1.2 false 0 r1.1) else (fn_X12_file_41 uFu x1 r1.2 true 0 r1.1)))
set_option maxRecDepth 100000 in
set_option maxHeartbeats 4000000 in
theorem xc_X12_file {l : Launch} {D : va_G} {A : Nat → ClassId} {B : Nat} {Z : State → Heap → Prop} {vF : Value} (uk : uK B Z vF) {x1 : Int32} {s : uS} {r : uS}  (h : fn_X12_file x1 s = some r) : CU l D A B Z 8 mX12_file s [.ref (B + 1079), .int x1] (r, none) := by
  unfold fn_X12_file at h
  refine cu_of rfl uk.1.1 (Nat.le_of_ble_eq_true rfl) ?_
  show GU _ _ _ _ _ _ _ _ _ 0 [(0, .ref (B + 1079)), (1, .int x1)] []
  refine uu_aload_n dX12_file_0 rfl (List.mem_of_getElem? (i := 0) rfl) ?_
  obtain ⟨r1, e2, h⟩ := uu_ob h
  refine uu_cv (d1 := 1) (k := 1079) (ci := 12) (T := TX12) (N := 153) (As := []) (st := []) (st' := [.int r1.2]) (xc_X12_string uk  e2) so_1079.is (by decide) rfl kX12_string lX12_349 sX12_string (by decide) (Nat.le_of_ble_eq_true rfl) dX12_file_1 rfl ?_
  refine uu_istore_n dX12_file_4 rfl (by decide) rfl ?_
  refine uu_aload_n dX12_file_5 rfl (List.mem_of_getElem? (i := 1) rfl) ?_
  refine uu_geti (ci := 12) (N := 153) fX12_193 (by decide) so_1079.is (by decide) (by decide) dX12_file_6 ?_
  refine uu_if_ge (tgt := 36) dX12_file_9 (by decide) (fun c3 => ?_) (fun c3 => ?_)
  · replace h := uu_pos c3 h
    refine uu_iconst (v := 0) dX12_file_36 (by decide) ?_
    refine uu_istore_n dX12_file_37 rfl (by decide) rfl ?_
    refine uu_iconst (v := 0) dX12_file_38 (by decide) ?_
    refine uu_istore dX12_file_39 (by decide) rfl ?_
    refine uu_lv [3, 4, 2, 1, 0] (lv' := [(0, .ref (B + 1079)), (1, .int x1), (2, .int r1.2), (3, .int 0), (4, .int 0)]) rfl ?_
    exact xn_X12_file_41 uk  _ _ _ _ _ _ _ h
  · replace h := uu_neg c3 h
    refine uu_aload_n dX12_file_12 rfl (List.mem_of_getElem? (i := 1) rfl) ?_
    refine uu_geta (ci := 12) (N := 153) fX12_346 (by decide) so_1079.is (by decide) (c := 1117) (by decide) dX12_file_13 ?_
    refine uu_iload_n dX12_file_16 rfl (List.mem_of_getElem? (i := 0) rfl) ?_
    obtain ⟨v4, e5, h⟩ := uu_ob h
    refine uu_iald e5 dX12_file_17 ?_
    refine uu_if_le (tgt := 36) dX12_file_18 (by decide) (fun c6 => ?_) (fun c6 => ?_)
    · replace h := uu_pos c6 h
      refine uu_iconst (v := 0) dX12_file_36 (by decide) ?_
      refine uu_istore_n dX12_file_37 rfl (by decide) rfl ?_
      refine uu_iconst (v := 0) dX12_file_38 (by decide) ?_
      refine uu_istore dX12_file_39 (by decide) rfl ?_
      refine uu_lv [3, 4, 2, 1, 0] (lv' := [(0, .ref (B + 1079)), (1, .int x1), (2, .int r1.2), (3, .int 0), (4, .int 0)]) rfl ?_
      exact xn_X12_file_41 uk  _ _ _ _ _ _ _ h
    · replace h := uu_neg c6 h
      refine uu_aload_n dX12_file_21 rfl (List.mem_of_getElem? (i := 1) rfl) ?_
      refine uu_geta (ci := 12) (N := 153) fX12_346 (by decide) so_1079.is (by decide) (c := 1117) (by decide) dX12_file_22 ?_
      refine uu_iload_n dX12_file_25 rfl (List.mem_of_getElem? (i := 0) rfl) ?_
      obtain ⟨v7, e8, h⟩ := uu_ob h
      refine uu_iald e8 dX12_file_26 ?_
      refine uu_bipush (v := 20) dX12_file_27 (by decide) ?_
      refine uu_icmp_gt (tgt := 36) dX12_file_29 (by decide) (fun c9 => ?_) (fun c9 => ?_)
      · replace h := uu_pos c9 h
        refine uu_iconst (v := 0) dX12_file_36 (by decide) ?_
        refine uu_istore_n dX12_file_37 rfl (by decide) rfl ?_
        refine uu_iconst (v := 0) dX12_file_38 (by decide) ?_
        refine uu_istore dX12_file_39 (by decide) rfl ?_
        refine uu_lv [3, 4, 2, 1, 0] (lv' := [(0, .ref (B + 1079)), (1, .int x1), (2, .int r1.2), (3, .int 0), (4, .int 0)]) rfl ?_
        exact xn_X12_file_41 uk  _ _ _ _ _ _ _ h
      · replace h := uu_neg c9 h
        refine uu_iconst (v := 1) dX12_file_32 (by decide) ?_
        refine uu_goto (tgt := 37) dX12_file_33 (by decide) ?_
        refine uu_istore_n dX12_file_37 rfl (by decide) rfl ?_
        refine uu_iconst (v := 0) dX12_file_38 (by decide) ?_
        refine uu_istore dX12_file_39 (by decide) rfl ?_
        refine uu_lv [3, 4, 2, 1, 0] (lv' := [(0, .ref (B + 1079)), (1, .int x1), (2, .int r1.2), (3, .int 1), (4, .int 0)]) rfl ?_
        exact xn_X12_file_41 uk  _ _ _ _ _ _ _ h
abbrev mX12_redirect : hM := (yX12_redirect, cX12_redirect, 3, none)
theorem dX12_redirect_39 : decode cX12_redirect 39 = .ok (.aload_n 0, 1) := by decide +kernel
theorem dX12_redirect_40 : decode cX12_redirect 40 = .ok (.getfield 439, 3) := by decide +kernel
theorem dX12_redirect_43 : decode cX12_redirect 43 = .ok (.iload_n 1, 1) := by decide +kernel
theorem dX12_redirect_44 : decode cX12_redirect 44 = .ok (.iload_n 2, 1) := by decide +kernel
theorem dX12_redirect_45 : decode cX12_redirect 45 = .ok (.iastore, 1) := by decide +kernel
theorem dX12_redirect_46 : decode cX12_redirect 46 = .ok (.aload_n 0, 1) := by decide +kernel
theorem dX12_redirect_47 : decode cX12_redirect 47 = .ok (.invokevirtual 279, 3) := by decide +kernel
theorem dX12_redirect_50 : decode cX12_redirect 50 = .ok (.return_, 1) := by decide +kernel
theorem dX12_redirect_17 : decode cX12_redirect 17 = .ok (.aload_n 0, 1) := by decide +kernel
theorem dX12_redirect_18 : decode cX12_redirect 18 = .ok (.getfield 193, 3) := by decide +kernel
theorem dX12_redirect_21 : decode cX12_redirect 21 = .ok (.ifCond .ge 18, 3) := by decide +kernel
theorem dX12_redirect_24 : decode cX12_redirect 24 = .ok (.aload_n 0, 1) := by decide +kernel
theorem kX12_atOf : h_ml mX12_atOf 0 := ⟨h_t9 56 rfl rfl, h_t1 16 rfl rfl, ⟨by decide, by decide, by decide +kernel⟩, by decide⟩
theorem lX12_469 : Cond.methodLink RX12 469 mX12_atOf.1 ∈ lw_g := h_t9 53 rfl rfl
theorem sX12_atOf : Cond.instanceMethod mX12_atOf.1 ∈ lw_g ∧ Cond.selects mX12_atOf.1.cls mX12_atOf.1 mX12_atOf.1 ∈ lw_g := ⟨h_t9 55 rfl rfl, h_ins 160 rfl⟩
theorem dX12_redirect_25 : decode cX12_redirect 25 = .ok (.invokevirtual 469, 3) := by decide +kernel
theorem dX12_redirect_28 : decode cX12_redirect 28 = .ok (.ifCond .ge 11, 3) := by decide +kernel
theorem dX12_redirect_31 : decode cX12_redirect 31 = .ok (.aload_n 0, 1) := by decide +kernel
theorem dX12_redirect_32 : decode cX12_redirect 32 = .ok (.aload_n 0, 1) := by decide +kernel
theorem dX12_redirect_33 : decode cX12_redirect 33 = .ok (.getfield 199, 3) := by decide +kernel
theorem dX12_redirect_36 : decode cX12_redirect 36 = .ok (.invokevirtual 208, 3) := by decide +kernel
theorem dX12_redirect_0 : decode cX12_redirect 0 = .ok (.aload_n 0, 1) := by decide +kernel
theorem dX12_redirect_1 : decode cX12_redirect 1 = .ok (.invokevirtual 349, 3) := by decide +kernel
theorem dX12_redirect_4 : decode cX12_redirect 4 = .ok (.istore_n 2, 1) := by decide +kernel
theorem dX12_redirect_5 : decode cX12_redirect 5 = .ok (.aload_n 0, 1) := by decide +kernel
theorem dX12_redirect_6 : decode cX12_redirect 6 = .ok (.getfield 193, 3) := by decide +kernel
theorem dX12_redirect_9 : decode cX12_redirect 9 = .ok (.ifCond .ge 8, 3) := by decide +kernel
theorem dX12_redirect_12 : decode cX12_redirect 12 = .ok (.aload_n 0, 1) := by decide +kernel
theorem dX12_redirect_13 : decode cX12_redirect 13 = .ok (.iload_n 2, 1) := by decide +kernel
theorem kX12_oneString : h_ml mX12_oneString 1 := ⟨h_t9 52 rfl rfl, h_t1 16 rfl rfl, ⟨by decide, by decide, by decide +kernel⟩, by decide⟩
theorem lX12_466 : Cond.methodLink RX12 466 mX12_oneString.1 ∈ lw_g := h_t9 49 rfl rfl
theorem sX12_oneString : Cond.instanceMethod mX12_oneString.1 ∈ lw_g ∧ Cond.selects mX12_oneString.1.cls mX12_oneString.1 mX12_oneString.1 ∈ lw_g := ⟨h_t9 51 rfl rfl, h_ins 159 rfl⟩
theorem dX12_redirect_14 : decode cX12_redirect 14 = .ok (.invokevirtual 466, 3) := by decide +kernel
def fb_X12_redirect_39  (x1 : Int32) (x2 : Int32) (s : uS) : Option uS := (iput 20 s 1102 x1 x2).bind fun s1 => (fn_X12_next s1).bind fun s3 => some s3
set_option maxRecDepth 100000 in
set_option maxHeartbeats 4000000 in
theorem xb_X12_redirect_39 {l : Launch} {D : va_G} {A : Nat → ClassId} {B : Nat} {Z : State → Heap → Prop} {vF : Value} (uk : uK B Z vF)   {x1 : Int32} {x2 : Int32} {s : uS} {r : uS}  (h : fb_X12_redirect_39  x1 x2 s = some r) : GU l D A B Z mX12_redirect 8 (r, none) s 39 [(0, .ref (B + 1079)), (1, .int x1), (2, .int x2)] [] := by
  unfold fb_X12_redirect_39 at h
  refine uu_aload_n dX12_redirect_39 rfl (List.mem_of_getElem? (i := 0) rfl) ?_
  refine uu_geta (ci := 12) (N := 153) fX12_439 (by decide) so_1079.is (by decide) (c := 1102) (by decide) dX12_redirect_40 ?_
  refine uu_iload_n dX12_redirect_43 rfl (List.mem_of_getElem? (i := 1) rfl) ?_
  refine uu_iload_n dX12_redirect_44 rfl (List.mem_of_getElem? (i := 2) rfl) ?_
  obtain ⟨s1, e2, h⟩ := uu_ob h
  refine uu_iast e2 dX12_redirect_45 ?_
  refine uu_aload_n dX12_redirect_46 rfl (List.mem_of_getElem? (i := 0) rfl) ?_
  obtain ⟨s3, e4, h⟩ := uu_ob h
  refine uu_cv (d1 := 7) (k := 1079) (ci := 12) (T := TX12) (N := 153) (As := []) (st := []) (st' := []) (xc_X12_next uk  e4) so_1079.is (by decide) rfl kX12_next lX12_279 sX12_next (by decide) (Nat.le_of_ble_eq_true rfl) dX12_redirect_47 rfl ?_
  have hr := Option.some.inj h
  subst hr
  exact uu_vret rfl dX12_redirect_50
def fb_X12_redirect_17  (x1 : Int32) (x2 : Int32) (s : uS) : Option uS := if 0 ≤ (s.I 1079 40) then (fb_X12_redirect_39 x1 x2 s) else ((fn_X12_atOf s).bind fun v2 => if 0 ≤ v2 then (fb_X12_redirect_39 x1 x2 s) else ((fn_X12_fail (s.I 1079 32) s).bind fun s5 => fb_X12_redirect_39 x1 x2 s5))
set_option maxRecDepth 100000 in
set_option maxHeartbeats 4000000 in
theorem xb_X12_redirect_17 {l : Launch} {D : va_G} {A : Nat → ClassId} {B : Nat} {Z : State → Heap → Prop} {vF : Value} (uk : uK B Z vF)   {x1 : Int32} {x2 : Int32} {s : uS} {r : uS}  (h : fb_X12_redirect_17  x1 x2 s = some r) : GU l D A B Z mX12_redirect 8 (r, none) s 17 [(0, .ref (B + 1079)), (1, .int x1), (2, .int x2)] [] := by
  unfold fb_X12_redirect_17 at h
  refine uu_aload_n dX12_redirect_17 rfl (List.mem_of_getElem? (i := 0) rfl) ?_
  refine uu_geti (ci := 12) (N := 153) fX12_193 (by decide) so_1079.is (by decide) (by decide) dX12_redirect_18 ?_
  refine uu_if_ge (tgt := 39) dX12_redirect_21 (by decide) (fun c1 => ?_) (fun c1 => ?_)
  · replace h := uu_pos c1 h
    exact xb_X12_redirect_39 uk  h
  · replace h := uu_neg c1 h
    refine uu_aload_n dX12_redirect_24 rfl (List.mem_of_getElem? (i := 0) rfl) ?_
    obtain ⟨v2, e3, h⟩ := uu_ob h
    refine uu_cv (d1 := 3) (k := 1079) (ci := 12) (T := TX12) (N := 153) (As := []) (st := []) (st' := [.int v2]) (xc_X12_atOf uk  e3) so_1079.is (by decide) rfl kX12_atOf lX12_469 sX12_atOf (by decide) (Nat.le_of_ble_eq_true rfl) dX12_redirect_25 rfl ?_
    refine uu_if_ge (tgt := 39) dX12_redirect_28 (by decide) (fun c4 => ?_) (fun c4 => ?_)
    · replace h := uu_pos c4 h
      exact xb_X12_redirect_39 uk  h
    · replace h := uu_neg c4 h
      refine uu_aload_n dX12_redirect_31 rfl (List.mem_of_getElem? (i := 0) rfl) ?_
      refine uu_aload_n dX12_redirect_32 rfl (List.mem_of_getElem? (i := 0) rfl) ?_
      refine uu_geti (ci := 12) (N := 153) fX12_199 (by decide) so_1079.is (by decide) (by decide) dX12_redirect_33 ?_
      obtain ⟨s5, e6, h⟩ := uu_ob h
      refine uu_cv (d1 := 0) (k := 1079) (ci := 12) (T := TX12) (N := 153) (As := [.int (s.I 1079 32)]) (st := []) (st' := []) (xc_X12_fail uk  e6) so_1079.is (by decide) rfl kX12_fail lX12_208 sX12_fail (by decide) (Nat.le_of_ble_eq_true rfl) dX12_redirect_36 rfl ?_
      exact xb_X12_redirect_39 uk  h
def fn_X12_redirect (x1 : Int32) (s : uS) : Option uS := (fn_X12_string s).bind fun r1 => if 0 ≤ (r1.1.I 1079 40) then (fb_X12_redirect_17 x1 r1.2 r1.1) else ((fn_X12_oneString r1.2 r1.1).bind fun s4 => fb_X12_redirect_17 x1 r1.2 s4)
set_option maxRecDepth 100000 in
set_option maxHeartbeats 4000000 in
theorem xc_X12_redirect {l : Launch} {D : va_G} {A : Nat → ClassId} {B : Nat} {Z : State → Heap → Prop} {vF : Value} (uk : uK B Z vF) {x1 : Int32} {s : uS} {r : uS}  (h : fn_X12_redirect x1 s = some r) : CU l D A B Z 8 mX12_redirect s [.ref (B + 1079), .int x1] (r, none) := by
  unfold fn_X12_redirect at h
  refine cu_of rfl uk.1.1 (Nat.le_of_ble_eq_true rfl) ?_
  show GU _ _ _ _ _ _ _ _ _ 0 [(0, .ref (B + 1079)), (1, .int x1)] []
  refine uu_aload_n dX12_redirect_0 rfl (List.mem_of_getElem? (i := 0) rfl) ?_
  obtain ⟨r1, e2, h⟩ := uu_ob h
  refine uu_cv (d1 := 1) (k := 1079) (ci := 12) (T := TX12) (N := 153) (As := []) (st := []) (st' := [.int r1.2]) (xc_X12_string uk  e2) so_1079.is (by decide) rfl kX12_string lX12_349 sX12_string (by decide) (Nat.le_of_ble_eq_true rfl) dX12_redirect_1 rfl ?_
  refine uu_istore_n dX12_redirect_4 rfl (by decide) rfl ?_
  refine uu_aload_n dX12_redirect_5 rfl (List.mem_of_getElem? (i := 1) rfl) ?_
  refine uu_geti (ci := 12) (N := 153) fX12_193 (by decide) so_1079.is (by decide) (by decide) dX12_redirect_6 ?_
  refine uu_if_ge (tgt := 17) dX12_redirect_9 (by decide) (fun c3 => ?_) (fun c3 => ?_)
  · replace h := uu_pos c3 h
    refine uu_lv [1, 2, 0] (lv' := [(0, .ref (B + 1079)), (1, .int x1), (2, .int r1.2)]) rfl ?_
    exact xb_X12_redirect_17 uk  h
  · replace h := uu_neg c3 h
    refine uu_aload_n dX12_redirect_12 rfl (List.mem_of_getElem? (i := 1) rfl) ?_
    refine uu_iload_n dX12_redirect_13 rfl (List.mem_of_getElem? (i := 0) rfl) ?_
    obtain ⟨s4, e5, h⟩ := uu_ob h
    refine uu_cv (d1 := 0) (k := 1079) (ci := 12) (T := TX12) (N := 153) (As := [.int r1.2]) (st := []) (st' := []) (xc_X12_oneString uk  e5) so_1079.is (by decide) rfl kX12_oneString lX12_466 sX12_oneString (by decide) (Nat.le_of_ble_eq_true rfl) dX12_redirect_14 rfl ?_
    refine uu_lv [1, 2, 0] (lv' := [(0, .ref (B + 1079)), (1, .int x1), (2, .int r1.2)]) rfl ?_
    exact xb_X12_redirect_17 uk  h
abbrev mX12_absence : hM := (yX12_absence, cX12_absence, 7, none)
theorem dX12_absence_176 : decode cX12_absence 176 = .ok (.aload_n 0, 1) := by decide +kernel
theorem dX12_absence_177 : decode cX12_absence 177 = .ok (.getfield 322, 3) := by decide +kernel
theorem dX12_absence_180 : decode cX12_absence 180 = .ok (.iload_n 1, 1) := by decide +kernel
theorem dX12_absence_181 : decode cX12_absence 181 = .ok (.aload_n 0, 1) := by decide +kernel
theorem dX12_absence_182 : decode cX12_absence 182 = .ok (.getfield 251, 3) := by decide +kernel
theorem dX12_absence_185 : decode cX12_absence 185 = .ok (.iastore, 1) := by decide +kernel
theorem dX12_absence_186 : decode cX12_absence 186 = .ok (.aload_n 0, 1) := by decide +kernel
theorem dX12_absence_187 : decode cX12_absence 187 = .ok (.invokevirtual 279, 3) := by decide +kernel
theorem dX12_absence_190 : decode cX12_absence 190 = .ok (.goto 58, 3) := by decide +kernel
theorem dX12_absence_248 : decode cX12_absence 248 = .ok (.goto (-234), 3) := by decide +kernel
theorem dX12_absence_152 : decode cX12_absence 152 = .ok (.aload_n 0, 1) := by decide +kernel
theorem dX12_absence_153 : decode cX12_absence 153 = .ok (.invokevirtual 279, 3) := by decide +kernel
theorem dX12_absence_156 : decode cX12_absence 156 = .ok (.iload_n 2, 1) := by decide +kernel
theorem dX12_absence_157 : decode cX12_absence 157 = .ok (.ifCond .eq 36, 3) := by decide +kernel
theorem dX12_absence_193 : decode cX12_absence 193 = .ok (.iload_n 3, 1) := by decide +kernel
theorem dX12_absence_194 : decode cX12_absence 194 = .ok (.ifCond .eq 16, 3) := by decide +kernel
theorem dX12_absence_210 : decode cX12_absence 210 = .ok (.iload 5, 2) := by decide +kernel
theorem dX12_absence_212 : decode cX12_absence 212 = .ok (.ifCond .eq 16, 3) := by decide +kernel
theorem dX12_absence_228 : decode cX12_absence 228 = .ok (.aload_n 0, 1) := by decide +kernel
theorem dX12_absence_229 : decode cX12_absence 229 = .ok (.getfield 454, 3) := by decide +kernel
theorem dX12_absence_232 : decode cX12_absence 232 = .ok (.iload_n 1, 1) := by decide +kernel
theorem dX12_absence_233 : decode cX12_absence 233 = .ok (.aload_n 0, 1) := by decide +kernel
theorem dX12_absence_234 : decode cX12_absence 234 = .ok (.getfield 340, 3) := by decide +kernel
theorem dX12_absence_237 : decode cX12_absence 237 = .ok (.iastore, 1) := by decide +kernel
theorem dX12_absence_238 : decode cX12_absence 238 = .ok (.aload_n 0, 1) := by decide +kernel
theorem dX12_absence_239 : decode cX12_absence 239 = .ok (.getfield 300, 3) := by decide +kernel
theorem dX12_absence_242 : decode cX12_absence 242 = .ok (.iload_n 1, 1) := by decide +kernel
theorem dX12_absence_243 : decode cX12_absence 243 = .ok (.aload_n 0, 1) := by decide +kernel
theorem dX12_absence_244 : decode cX12_absence 244 = .ok (.invokevirtual 442, 3) := by decide +kernel
theorem dX12_absence_247 : decode cX12_absence 247 = .ok (.iastore, 1) := by decide +kernel
theorem dX12_absence_215 : decode cX12_absence 215 = .ok (.aload_n 0, 1) := by decide +kernel
theorem dX12_absence_216 : decode cX12_absence 216 = .ok (.getfield 328, 3) := by decide +kernel
theorem dX12_absence_219 : decode cX12_absence 219 = .ok (.iload_n 1, 1) := by decide +kernel
theorem dX12_absence_220 : decode cX12_absence 220 = .ok (.aload_n 0, 1) := by decide +kernel
theorem dX12_absence_221 : decode cX12_absence 221 = .ok (.invokevirtual 352, 3) := by decide +kernel
theorem dX12_absence_224 : decode cX12_absence 224 = .ok (.iastore, 1) := by decide +kernel
theorem dX12_absence_225 : decode cX12_absence 225 = .ok (.goto 23, 3) := by decide +kernel
theorem dX12_absence_197 : decode cX12_absence 197 = .ok (.aload_n 0, 1) := by decide +kernel
theorem dX12_absence_198 : decode cX12_absence 198 = .ok (.getfield 325, 3) := by decide +kernel
theorem dX12_absence_201 : decode cX12_absence 201 = .ok (.iload_n 1, 1) := by decide +kernel
theorem dX12_absence_202 : decode cX12_absence 202 = .ok (.aload_n 0, 1) := by decide +kernel
theorem dX12_absence_203 : decode cX12_absence 203 = .ok (.invokevirtual 352, 3) := by decide +kernel
theorem dX12_absence_206 : decode cX12_absence 206 = .ok (.iastore, 1) := by decide +kernel
theorem dX12_absence_207 : decode cX12_absence 207 = .ok (.goto 41, 3) := by decide +kernel
theorem dX12_absence_160 : decode cX12_absence 160 = .ok (.aload_n 0, 1) := by decide +kernel
theorem dX12_absence_161 : decode cX12_absence 161 = .ok (.iconst 3, 1) := by decide +kernel
theorem dX12_absence_162 : decode cX12_absence 162 = .ok (.invokevirtual 273, 3) := by decide +kernel
theorem dX12_absence_165 : decode cX12_absence 165 = .ok (.ifCond .ne 11, 3) := by decide +kernel
theorem dX12_absence_168 : decode cX12_absence 168 = .ok (.aload_n 0, 1) := by decide +kernel
theorem dX12_absence_169 : decode cX12_absence 169 = .ok (.aload_n 0, 1) := by decide +kernel
theorem dX12_absence_170 : decode cX12_absence 170 = .ok (.getfield 199, 3) := by decide +kernel
theorem dX12_absence_173 : decode cX12_absence 173 = .ok (.invokevirtual 208, 3) := by decide +kernel
theorem dX12_absence_144 : decode cX12_absence 144 = .ok (.aload_n 0, 1) := by decide +kernel
theorem dX12_absence_145 : decode cX12_absence 145 = .ok (.aload_n 0, 1) := by decide +kernel
theorem dX12_absence_146 : decode cX12_absence 146 = .ok (.getfield 199, 3) := by decide +kernel
theorem dX12_absence_149 : decode cX12_absence 149 = .ok (.invokevirtual 208, 3) := by decide +kernel
theorem dX12_absence_119 : decode cX12_absence 119 = .ok (.istore 6, 2) := by decide +kernel
theorem dX12_absence_121 : decode cX12_absence 121 = .ok (.iload 6, 2) := by decide +kernel
theorem dX12_absence_123 : decode cX12_absence 123 = .ok (.ifCond .ne 21, 3) := by decide +kernel
theorem dX12_absence_126 : decode cX12_absence 126 = .ok (.iload_n 2, 1) := by decide +kernel
theorem dX12_absence_127 : decode cX12_absence 127 = .ok (.ifCond .ne 25, 3) := by decide +kernel
theorem dX12_absence_130 : decode cX12_absence 130 = .ok (.iload_n 3, 1) := by decide +kernel
theorem dX12_absence_131 : decode cX12_absence 131 = .ok (.ifCond .ne 21, 3) := by decide +kernel
theorem dX12_absence_134 : decode cX12_absence 134 = .ok (.iload 4, 2) := by decide +kernel
theorem dX12_absence_136 : decode cX12_absence 136 = .ok (.ifCond .ne 16, 3) := by decide +kernel
theorem dX12_absence_139 : decode cX12_absence 139 = .ok (.iload 5, 2) := by decide +kernel
theorem dX12_absence_141 : decode cX12_absence 141 = .ok (.ifCond .ne 11, 3) := by decide +kernel
theorem dX12_absence_99 : decode cX12_absence 99 = .ok (.iload 5, 2) := by decide +kernel
theorem dX12_absence_101 : decode cX12_absence 101 = .ok (.ifCond .eq 17, 3) := by decide +kernel
theorem dX12_absence_118 : decode cX12_absence 118 = .ok (.iconst 0, 1) := by decide +kernel
theorem dX12_absence_104 : decode cX12_absence 104 = .ok (.aload_n 0, 1) := by decide +kernel
theorem dX12_absence_105 : decode cX12_absence 105 = .ok (.getfield 328, 3) := by decide +kernel
theorem dX12_absence_108 : decode cX12_absence 108 = .ok (.iload_n 1, 1) := by decide +kernel
theorem dX12_absence_109 : decode cX12_absence 109 = .ok (.iaload, 1) := by decide +kernel
theorem dX12_absence_110 : decode cX12_absence 110 = .ok (.iconst (-1), 1) := by decide +kernel
theorem dX12_absence_111 : decode cX12_absence 111 = .ok (.if_icmp .eq 7, 3) := by decide +kernel
theorem dX12_absence_114 : decode cX12_absence 114 = .ok (.iconst 1, 1) := by decide +kernel
theorem dX12_absence_115 : decode cX12_absence 115 = .ok (.goto 4, 3) := by decide +kernel
theorem dX12_absence_84 : decode cX12_absence 84 = .ok (.iload 4, 2) := by decide +kernel
theorem dX12_absence_86 : decode cX12_absence 86 = .ok (.ifCond .eq 13, 3) := by decide +kernel
theorem dX12_absence_89 : decode cX12_absence 89 = .ok (.aload_n 0, 1) := by decide +kernel
theorem dX12_absence_90 : decode cX12_absence 90 = .ok (.getfield 454, 3) := by decide +kernel
theorem dX12_absence_93 : decode cX12_absence 93 = .ok (.iload_n 1, 1) := by decide +kernel
theorem dX12_absence_94 : decode cX12_absence 94 = .ok (.iaload, 1) := by decide +kernel
theorem dX12_absence_95 : decode cX12_absence 95 = .ok (.iconst (-1), 1) := by decide +kernel
theorem dX12_absence_96 : decode cX12_absence 96 = .ok (.if_icmp .ne 18, 3) := by decide +kernel
theorem dX12_absence_70 : decode cX12_absence 70 = .ok (.iload_n 3, 1) := by decide +kernel
theorem dX12_absence_71 : decode cX12_absence 71 = .ok (.ifCond .eq 13, 3) := by decide +kernel
theorem dX12_absence_74 : decode cX12_absence 74 = .ok (.aload_n 0, 1) := by decide +kernel
theorem dX12_absence_75 : decode cX12_absence 75 = .ok (.getfield 325, 3) := by decide +kernel
theorem dX12_absence_78 : decode cX12_absence 78 = .ok (.iload_n 1, 1) := by decide +kernel
theorem dX12_absence_79 : decode cX12_absence 79 = .ok (.iaload, 1) := by decide +kernel
theorem dX12_absence_80 : decode cX12_absence 80 = .ok (.iconst (-1), 1) := by decide +kernel
theorem dX12_absence_81 : decode cX12_absence 81 = .ok (.if_icmp .ne 33, 3) := by decide +kernel
theorem dX12_absence_14 : decode cX12_absence 14 = .ok (.aload_n 0, 1) := by decide +kernel
theorem dX12_absence_15 : decode cX12_absence 15 = .ok (.iconst 2, 1) := by decide +kernel
theorem dX12_absence_16 : decode cX12_absence 16 = .ok (.invokevirtual 273, 3) := by decide +kernel
theorem dX12_absence_19 : decode cX12_absence 19 = .ok (.ifCond .eq 232, 3) := by decide +kernel
theorem dX12_absence_251 : decode cX12_absence 251 = .ok (.aload_n 0, 1) := by decide +kernel
theorem dX12_absence_252 : decode cX12_absence 252 = .ok (.getfield 439, 3) := by decide +kernel
theorem dX12_absence_255 : decode cX12_absence 255 = .ok (.iload_n 1, 1) := by decide +kernel
theorem dX12_absence_256 : decode cX12_absence 256 = .ok (.aload_n 0, 1) := by decide +kernel
theorem dX12_absence_257 : decode cX12_absence 257 = .ok (.invokevirtual 352, 3) := by decide +kernel
theorem dX12_absence_260 : decode cX12_absence 260 = .ok (.iastore, 1) := by decide +kernel
theorem dX12_absence_261 : decode cX12_absence 261 = .ok (.return_, 1) := by decide +kernel
theorem dX12_absence_22 : decode cX12_absence 22 = .ok (.aload_n 0, 1) := by decide +kernel
theorem dX12_absence_23 : decode cX12_absence 23 = .ok (.ldc_w 472, 3) := by decide +kernel
theorem dX12_absence_26 : decode cX12_absence 26 = .ok (.invokevirtual 235, 3) := by decide +kernel
theorem dX12_absence_29 : decode cX12_absence 29 = .ok (.istore_n 2, 1) := by decide +kernel
theorem dX12_absence_30 : decode cX12_absence 30 = .ok (.aload_n 0, 1) := by decide +kernel
theorem dX12_absence_31 : decode cX12_absence 31 = .ok (.ldc_w 474, 3) := by decide +kernel
theorem dX12_absence_34 : decode cX12_absence 34 = .ok (.invokevirtual 235, 3) := by decide +kernel
theorem dX12_absence_37 : decode cX12_absence 37 = .ok (.istore_n 3, 1) := by decide +kernel
theorem dX12_absence_38 : decode cX12_absence 38 = .ok (.aload_n 0, 1) := by decide +kernel
theorem dX12_absence_39 : decode cX12_absence 39 = .ok (.ldc_w 476, 3) := by decide +kernel
theorem dX12_absence_42 : decode cX12_absence 42 = .ok (.invokevirtual 235, 3) := by decide +kernel
theorem dX12_absence_45 : decode cX12_absence 45 = .ok (.istore 4, 2) := by decide +kernel
theorem dX12_absence_47 : decode cX12_absence 47 = .ok (.aload_n 0, 1) := by decide +kernel
theorem dX12_absence_48 : decode cX12_absence 48 = .ok (.ldc_w 478, 3) := by decide +kernel
theorem dX12_absence_51 : decode cX12_absence 51 = .ok (.invokevirtual 235, 3) := by decide +kernel
theorem dX12_absence_54 : decode cX12_absence 54 = .ok (.istore 5, 2) := by decide +kernel
theorem dX12_absence_56 : decode cX12_absence 56 = .ok (.iload_n 2, 1) := by decide +kernel
theorem dX12_absence_57 : decode cX12_absence 57 = .ok (.ifCond .eq 13, 3) := by decide +kernel
theorem dX12_absence_60 : decode cX12_absence 60 = .ok (.aload_n 0, 1) := by decide +kernel
theorem dX12_absence_61 : decode cX12_absence 61 = .ok (.getfield 322, 3) := by decide +kernel
theorem dX12_absence_64 : decode cX12_absence 64 = .ok (.iload_n 1, 1) := by decide +kernel
theorem dX12_absence_65 : decode cX12_absence 65 = .ok (.iaload, 1) := by decide +kernel
theorem dX12_absence_66 : decode cX12_absence 66 = .ok (.iconst (-1), 1) := by decide +kernel
theorem dX12_absence_67 : decode cX12_absence 67 = .ok (.if_icmp .ne 47, 3) := by decide +kernel
theorem dX12_absence_0 : decode cX12_absence 0 = .ok (.aload_n 0, 1) := by decide +kernel
theorem dX12_absence_1 : decode cX12_absence 1 = .ok (.getfield 322, 3) := by decide +kernel
theorem dX12_absence_4 : decode cX12_absence 4 = .ok (.iload_n 1, 1) := by decide +kernel
theorem dX12_absence_5 : decode cX12_absence 5 = .ok (.iconst (-1), 1) := by decide +kernel
theorem dX12_absence_6 : decode cX12_absence 6 = .ok (.iastore, 1) := by decide +kernel
theorem dX12_absence_7 : decode cX12_absence 7 = .ok (.aload_n 0, 1) := by decide +kernel
theorem dX12_absence_8 : decode cX12_absence 8 = .ok (.getfield 454, 3) := by decide +kernel
theorem dX12_absence_11 : decode cX12_absence 11 = .ok (.iload_n 1, 1) := by decide +kernel
theorem dX12_absence_12 : decode cX12_absence 12 = .ok (.iconst (-1), 1) := by decide +kernel
theorem dX12_absence_13 : decode cX12_absence 13 = .ok (.iastore, 1) := by decide +kernel
def fb_X12_absence_176 (K14 : Int32 → uS → Option uS) (x1 : Int32) (s : uS) : Option uS := (iput 20 s 1113 x1 (s.I 1079 35)).bind fun s1 => (fn_X12_next s1).bind fun s3 => K14 x1 s3
set_option maxRecDepth 100000 in
set_option maxHeartbeats 4000000 in
theorem xb_X12_absence_176 {l : Launch} {D : va_G} {A : Nat → ClassId} {B : Nat} {Z : State → Heap → Prop} {vF : Value} (uk : uK B Z vF) {K14 : Int32 → uS → Option uS} (hK14 : ∀ (x1 : Int32)  (s : uS) (r : uS), K14 x1 s = some r → GU l D A B Z mX12_absence 10 (r, none) s 14 [(0, .ref (B + 1079)), (1, .int x1)] []) {x1 : Int32} {s : uS} {r : uS}  (h : fb_X12_absence_176 K14 x1 s = some r) : GU l D A B Z mX12_absence 10 (r, none) s 176 [(0, .ref (B + 1079)), (1, .int x1)] [] := by
  unfold fb_X12_absence_176 at h
  refine uu_aload_n dX12_absence_176 rfl (List.mem_of_getElem? (i := 0) rfl) ?_
  refine uu_geta (ci := 12) (N := 153) fX12_322 (by decide) so_1079.is (by decide) (c := 1113) (by decide) dX12_absence_177 ?_
  refine uu_iload_n dX12_absence_180 rfl (List.mem_of_getElem? (i := 1) rfl) ?_
  refine uu_aload_n dX12_absence_181 rfl (List.mem_of_getElem? (i := 0) rfl) ?_
  refine uu_geti (ci := 12) (N := 153) fX12_251 (by decide) so_1079.is (by decide) (by decide) dX12_absence_182 ?_
  obtain ⟨s1, e2, h⟩ := uu_ob h
  refine uu_iast e2 dX12_absence_185 ?_
  refine uu_aload_n dX12_absence_186 rfl (List.mem_of_getElem? (i := 0) rfl) ?_
  obtain ⟨s3, e4, h⟩ := uu_ob h
  refine uu_cv (d1 := 7) (k := 1079) (ci := 12) (T := TX12) (N := 153) (As := []) (st := []) (st' := []) (xc_X12_next uk  e4) so_1079.is (by decide) rfl kX12_next lX12_279 sX12_next (by decide) (Nat.le_of_ble_eq_true rfl) dX12_absence_187 rfl ?_
  refine uu_goto (tgt := 248) dX12_absence_190 (by decide) ?_
  refine uu_goto (tgt := 14) dX12_absence_248 (by decide) ?_
  exact hK14 x1 _ _ h
def fb_X12_absence_152 (K14 : Int32 → uS → Option uS) (x1 : Int32) (b2 : Bool) (b3 : Bool) (b5 : Bool) (s : uS) : Option uS := (fn_X12_next s).bind fun s1 => if b2 = true then ((fn_X12_is 3 s1).bind fun v20 => if v20 = true then (fb_X12_absence_176 K14 x1 s1) else ((fn_X12_fail (s1.I 1079 32) s1).bind fun s23 => fb_X12_absence_176 K14 x1 s23)) else (if b3 = true then ((fn_X12_taken s1).bind fun r16 => (iput 20 r16.1 1114 x1 r16.2).bind fun s18 => K14 x1 s18) else (if b5 = true then ((fn_X12_taken s1).bind fun r12 => (iput 20 r12.1 1115 x1 r12.2).bind fun s14 => K14 x1 s14) else ((iput 20 s1 1104 x1 (s1.I 1079 61)).bind fun s6 => (fn_X12_list s6).bind fun r8 => (iput 20 r8.1 1105 x1 r8.2).bind fun s10 => K14 x1 s10)))
set_option maxRecDepth 100000 in
set_option maxHeartbeats 4000000 in
theorem xb_X12_absence_152 {l : Launch} {D : va_G} {A : Nat → ClassId} {B : Nat} {Z : State → Heap → Prop} {vF : Value} (uk : uK B Z vF) {K14 : Int32 → uS → Option uS} (hK14 : ∀ (x1 : Int32)  (s : uS) (r : uS), K14 x1 s = some r → GU l D A B Z mX12_absence 10 (r, none) s 14 [(0, .ref (B + 1079)), (1, .int x1)] []) {x1 : Int32} {b2 : Bool} {b3 : Bool} {b5 : Bool} {s : uS} {r : uS}  (h : fb_X12_absence_152 K14 x1 b2 b3 b5 s = some r) : GU l D A B Z mX12_absence 10 (r, none) s 152 [(0, .ref (B + 1079)), (1, .int x1), (2, .int (bI b2)), (3, .int (bI b3)), (5, .int (bI b5))] [] := by
  unfold fb_X12_absence_152 at h
  refine uu_aload_n dX12_absence_152 rfl (List.mem_of_getElem? (i := 0) rfl) ?_
  obtain ⟨s1, e2, h⟩ := uu_ob h
  refine uu_cv (d1 := 7) (k := 1079) (ci := 12) (T := TX12) (N := 153) (As := []) (st := []) (st' := []) (xc_X12_next uk  e2) so_1079.is (by decide) rfl kX12_next lX12_279 sX12_next (by decide) (Nat.le_of_ble_eq_true rfl) dX12_absence_153 rfl ?_
  refine uu_iload_n dX12_absence_156 rfl (List.mem_of_getElem? (i := 2) rfl) ?_
  refine uu_ifb_eq (tgt := 193) dX12_absence_157 (by decide) (fun c3 => ?_) (fun c3 => ?_)
  · replace h := uu_neg c3 h
    refine uu_iload_n dX12_absence_193 rfl (List.mem_of_getElem? (i := 3) rfl) ?_
    refine uu_ifb_eq (tgt := 210) dX12_absence_194 (by decide) (fun c4 => ?_) (fun c4 => ?_)
    · replace h := uu_neg c4 h
      refine uu_iload dX12_absence_210 (List.mem_of_getElem? (i := 4) rfl) ?_
      refine uu_ifb_eq (tgt := 228) dX12_absence_212 (by decide) (fun c5 => ?_) (fun c5 => ?_)
      · replace h := uu_neg c5 h
        refine uu_aload_n dX12_absence_228 rfl (List.mem_of_getElem? (i := 0) rfl) ?_
        refine uu_geta (ci := 12) (N := 153) fX12_454 (by decide) so_1079.is (by decide) (c := 1104) (by decide) dX12_absence_229 ?_
        refine uu_iload_n dX12_absence_232 rfl (List.mem_of_getElem? (i := 1) rfl) ?_
        refine uu_aload_n dX12_absence_233 rfl (List.mem_of_getElem? (i := 0) rfl) ?_
        refine uu_geti (ci := 12) (N := 153) fX12_340 (by decide) so_1079.is (by decide) (by decide) dX12_absence_234 ?_
        obtain ⟨s6, e7, h⟩ := uu_ob h
        refine uu_iast e7 dX12_absence_237 ?_
        refine uu_aload_n dX12_absence_238 rfl (List.mem_of_getElem? (i := 0) rfl) ?_
        refine uu_geta (ci := 12) (N := 153) fX12_300 (by decide) so_1079.is (by decide) (c := 1105) (by decide) dX12_absence_239 ?_
        refine uu_iload_n dX12_absence_242 rfl (List.mem_of_getElem? (i := 1) rfl) ?_
        refine uu_aload_n dX12_absence_243 rfl (List.mem_of_getElem? (i := 0) rfl) ?_
        obtain ⟨r8, e9, h⟩ := uu_ob h
        refine uu_cv (d1 := 9) (k := 1079) (ci := 12) (T := TX12) (N := 153) (As := []) (st := [.int x1, .ref (B + 1105)]) (st' := [.int r8.2, .int x1, .ref (B + 1105)]) (xc_X12_list uk  e9) so_1079.is (by decide) rfl kX12_list lX12_442 sX12_list (by decide) (Nat.le_of_ble_eq_true rfl) dX12_absence_244 rfl ?_
        obtain ⟨s10, e11, h⟩ := uu_ob h
        refine uu_iast e11 dX12_absence_247 ?_
        refine uu_goto (tgt := 14) dX12_absence_248 (by decide) ?_
        refine uu_lv [0, 1] (lv' := [(0, .ref (B + 1079)), (1, .int x1)]) rfl ?_
        exact hK14 x1 _ _ h
      · replace h := uu_pos c5 h
        refine uu_aload_n dX12_absence_215 rfl (List.mem_of_getElem? (i := 0) rfl) ?_
        refine uu_geta (ci := 12) (N := 153) fX12_328 (by decide) so_1079.is (by decide) (c := 1115) (by decide) dX12_absence_216 ?_
        refine uu_iload_n dX12_absence_219 rfl (List.mem_of_getElem? (i := 1) rfl) ?_
        refine uu_aload_n dX12_absence_220 rfl (List.mem_of_getElem? (i := 0) rfl) ?_
        obtain ⟨r12, e13, h⟩ := uu_ob h
        refine uu_cv (d1 := 8) (k := 1079) (ci := 12) (T := TX12) (N := 153) (As := []) (st := [.int x1, .ref (B + 1115)]) (st' := [.int r12.2, .int x1, .ref (B + 1115)]) (xc_X12_taken uk  e13) so_1079.is (by decide) rfl kX12_taken lX12_352 sX12_taken (by decide) (Nat.le_of_ble_eq_true rfl) dX12_absence_221 rfl ?_
        obtain ⟨s14, e15, h⟩ := uu_ob h
        refine uu_iast e15 dX12_absence_224 ?_
        refine uu_goto (tgt := 248) dX12_absence_225 (by decide) ?_
        refine uu_goto (tgt := 14) dX12_absence_248 (by decide) ?_
        refine uu_lv [0, 1] (lv' := [(0, .ref (B + 1079)), (1, .int x1)]) rfl ?_
        exact hK14 x1 _ _ h
    · replace h := uu_pos c4 h
      refine uu_aload_n dX12_absence_197 rfl (List.mem_of_getElem? (i := 0) rfl) ?_
      refine uu_geta (ci := 12) (N := 153) fX12_325 (by decide) so_1079.is (by decide) (c := 1114) (by decide) dX12_absence_198 ?_
      refine uu_iload_n dX12_absence_201 rfl (List.mem_of_getElem? (i := 1) rfl) ?_
      refine uu_aload_n dX12_absence_202 rfl (List.mem_of_getElem? (i := 0) rfl) ?_
      obtain ⟨r16, e17, h⟩ := uu_ob h
      refine uu_cv (d1 := 8) (k := 1079) (ci := 12) (T := TX12) (N := 153) (As := []) (st := [.int x1, .ref (B + 1114)]) (st' := [.int r16.2, .int x1, .ref (B + 1114)]) (xc_X12_taken uk  e17) so_1079.is (by decide) rfl kX12_taken lX12_352 sX12_taken (by decide) (Nat.le_of_ble_eq_true rfl) dX12_absence_203 rfl ?_
      obtain ⟨s18, e19, h⟩ := uu_ob h
      refine uu_iast e19 dX12_absence_206 ?_
      refine uu_goto (tgt := 248) dX12_absence_207 (by decide) ?_
      refine uu_goto (tgt := 14) dX12_absence_248 (by decide) ?_
      refine uu_lv [0, 1] (lv' := [(0, .ref (B + 1079)), (1, .int x1)]) rfl ?_
      exact hK14 x1 _ _ h
  · replace h := uu_pos c3 h
    refine uu_aload_n dX12_absence_160 rfl (List.mem_of_getElem? (i := 0) rfl) ?_
    refine uu_iconst (v := 3) dX12_absence_161 (by decide) ?_
    obtain ⟨v20, e21, h⟩ := uu_ob h
    refine uu_cv (d1 := 0) (k := 1079) (ci := 12) (T := TX12) (N := 153) (As := [.int 3]) (st := []) (st' := [.int (bI v20)]) (xc_X12_is uk  e21) so_1079.is (by decide) rfl kX12_is lX12_273 sX12_is (by decide) (Nat.le_of_ble_eq_true rfl) dX12_absence_162 rfl ?_
    refine uu_ifb_ne (tgt := 176) dX12_absence_165 (by decide) (fun c22 => ?_) (fun c22 => ?_)
    · replace h := uu_pos c22 h
      refine uu_lv [0, 1] (lv' := [(0, .ref (B + 1079)), (1, .int x1)]) rfl ?_
      exact xb_X12_absence_176 uk hK14 h
    · replace h := uu_neg c22 h
      refine uu_aload_n dX12_absence_168 rfl (List.mem_of_getElem? (i := 0) rfl) ?_
      refine uu_aload_n dX12_absence_169 rfl (List.mem_of_getElem? (i := 0) rfl) ?_
      refine uu_geti (ci := 12) (N := 153) fX12_199 (by decide) so_1079.is (by decide) (by decide) dX12_absence_170 ?_
      obtain ⟨s23, e24, h⟩ := uu_ob h
      refine uu_cv (d1 := 0) (k := 1079) (ci := 12) (T := TX12) (N := 153) (As := [.int (s1.I 1079 32)]) (st := []) (st' := []) (xc_X12_fail uk  e24) so_1079.is (by decide) rfl kX12_fail lX12_208 sX12_fail (by decide) (Nat.le_of_ble_eq_true rfl) dX12_absence_173 rfl ?_
      refine uu_lv [0, 1] (lv' := [(0, .ref (B + 1079)), (1, .int x1)]) rfl ?_
      exact xb_X12_absence_176 uk hK14 h
def fb_X12_absence_144 (K14 : Int32 → uS → Option uS) (x1 : Int32) (b2 : Bool) (b3 : Bool) (b5 : Bool) (s : uS) : Option uS := (fn_X12_fail (s.I 1079 32) s).bind fun s1 => fb_X12_absence_152 K14 x1 b2 b3 b5 s1
set_option maxRecDepth 100000 in
set_option maxHeartbeats 4000000 in
theorem xb_X12_absence_144 {l : Launch} {D : va_G} {A : Nat → ClassId} {B : Nat} {Z : State → Heap → Prop} {vF : Value} (uk : uK B Z vF) {K14 : Int32 → uS → Option uS} (hK14 : ∀ (x1 : Int32)  (s : uS) (r : uS), K14 x1 s = some r → GU l D A B Z mX12_absence 10 (r, none) s 14 [(0, .ref (B + 1079)), (1, .int x1)] []) {x1 : Int32} {b2 : Bool} {b3 : Bool} {b5 : Bool} {s : uS} {r : uS}  (h : fb_X12_absence_144 K14 x1 b2 b3 b5 s = some r) : GU l D A B Z mX12_absence 10 (r, none) s 144 [(0, .ref (B + 1079)), (1, .int x1), (2, .int (bI b2)), (3, .int (bI b3)), (5, .int (bI b5))] [] := by
  unfold fb_X12_absence_144 at h
  refine uu_aload_n dX12_absence_144 rfl (List.mem_of_getElem? (i := 0) rfl) ?_
  refine uu_aload_n dX12_absence_145 rfl (List.mem_of_getElem? (i := 0) rfl) ?_
  refine uu_geti (ci := 12) (N := 153) fX12_199 (by decide) so_1079.is (by decide) (by decide) dX12_absence_146 ?_
  obtain ⟨s1, e2, h⟩ := uu_ob h
  refine uu_cv (d1 := 0) (k := 1079) (ci := 12) (T := TX12) (N := 153) (As := [.int (s.I 1079 32)]) (st := []) (st' := []) (xc_X12_fail uk  e2) so_1079.is (by decide) rfl kX12_fail lX12_208 sX12_fail (by decide) (Nat.le_of_ble_eq_true rfl) dX12_absence_149 rfl ?_
  exact xb_X12_absence_152 uk hK14 h
def fb_X12_absence_119 (K14 : Int32 → uS → Option uS) (x1 : Int32) (b2 : Bool) (b3 : Bool) (b4 : Bool) (b5 : Bool) (bs0 : Bool) (s : uS) : Option uS := if bs0 = true then (fb_X12_absence_144 K14 x1 b2 b3 b5 s) else (if b2 = true then (fb_X12_absence_152 K14 x1 b2 b3 b5 s) else (if b3 = true then (fb_X12_absence_152 K14 x1 b2 b3 b5 s) else (if b4 = true then (fb_X12_absence_152 K14 x1 b2 b3 b5 s) else (if b5 = true then (fb_X12_absence_152 K14 x1 b2 b3 b5 s) else (fb_X12_absence_144 K14 x1 b2 b3 b5 s)))))
set_option maxRecDepth 100000 in
set_option maxHeartbeats 4000000 in
theorem xb_X12_absence_119 {l : Launch} {D : va_G} {A : Nat → ClassId} {B : Nat} {Z : State → Heap → Prop} {vF : Value} (uk : uK B Z vF) {K14 : Int32 → uS → Option uS} (hK14 : ∀ (x1 : Int32)  (s : uS) (r : uS), K14 x1 s = some r → GU l D A B Z mX12_absence 10 (r, none) s 14 [(0, .ref (B + 1079)), (1, .int x1)] []) {x1 : Int32} {b2 : Bool} {b3 : Bool} {b4 : Bool} {b5 : Bool} {bs0 : Bool} {s : uS} {r : uS}  (h : fb_X12_absence_119 K14 x1 b2 b3 b4 b5 bs0 s = some r) : GU l D A B Z mX12_absence 10 (r, none) s 119 [(0, .ref (B + 1079)), (1, .int x1), (2, .int (bI b2)), (3, .int (bI b3)), (4, .int (bI b4)), (5, .int (bI b5))] [.int (bI bs0)] := by
  unfold fb_X12_absence_119 at h
  refine uu_istore dX12_absence_119 (by decide) rfl ?_
  refine uu_iload dX12_absence_121 (List.mem_of_getElem? (i := 0) rfl) ?_
  refine uu_ifb_ne (tgt := 144) dX12_absence_123 (by decide) (fun c1 => ?_) (fun c1 => ?_)
  · replace h := uu_pos c1 h
    refine uu_lv [1, 2, 3, 4, 6] (lv' := [(0, .ref (B + 1079)), (1, .int x1), (2, .int (bI b2)), (3, .int (bI b3)), (5, .int (bI b5))]) rfl ?_
    exact xb_X12_absence_144 uk hK14 h
  · replace h := uu_neg c1 h
    refine uu_iload_n dX12_absence_126 rfl (List.mem_of_getElem? (i := 3) rfl) ?_
    refine uu_ifb_ne (tgt := 152) dX12_absence_127 (by decide) (fun c2 => ?_) (fun c2 => ?_)
    · replace h := uu_pos c2 h
      refine uu_lv [1, 2, 3, 4, 6] (lv' := [(0, .ref (B + 1079)), (1, .int x1), (2, .int (bI b2)), (3, .int (bI b3)), (5, .int (bI b5))]) rfl ?_
      exact xb_X12_absence_152 uk hK14 h
    · replace h := uu_neg c2 h
      refine uu_iload_n dX12_absence_130 rfl (List.mem_of_getElem? (i := 4) rfl) ?_
      refine uu_ifb_ne (tgt := 152) dX12_absence_131 (by decide) (fun c3 => ?_) (fun c3 => ?_)
      · replace h := uu_pos c3 h
        refine uu_lv [1, 2, 3, 4, 6] (lv' := [(0, .ref (B + 1079)), (1, .int x1), (2, .int (bI b2)), (3, .int (bI b3)), (5, .int (bI b5))]) rfl ?_
        exact xb_X12_absence_152 uk hK14 h
      · replace h := uu_neg c3 h
        refine uu_iload dX12_absence_134 (List.mem_of_getElem? (i := 5) rfl) ?_
        refine uu_ifb_ne (tgt := 152) dX12_absence_136 (by decide) (fun c4 => ?_) (fun c4 => ?_)
        · replace h := uu_pos c4 h
          refine uu_lv [1, 2, 3, 4, 6] (lv' := [(0, .ref (B + 1079)), (1, .int x1), (2, .int (bI b2)), (3, .int (bI b3)), (5, .int (bI b5))]) rfl ?_
          exact xb_X12_absence_152 uk hK14 h
        · replace h := uu_neg c4 h
          refine uu_iload dX12_absence_139 (List.mem_of_getElem? (i := 6) rfl) ?_
          refine uu_ifb_ne (tgt := 152) dX12_absence_141 (by decide) (fun c5 => ?_) (fun c5 => ?_)
          · replace h := uu_pos c5 h
            refine uu_lv [1, 2, 3, 4, 6] (lv' := [(0, .ref (B + 1079)), (1, .int x1), (2, .int (bI b2)), (3, .int (bI b3)), (5, .int (bI b5))]) rfl ?_
            exact xb_X12_absence_152 uk hK14 h
          · replace h := uu_neg c5 h
            refine uu_lv [1, 2, 3, 4, 6] (lv' := [(0, .ref (B + 1079)), (1, .int x1), (2, .int (bI b2)), (3, .int (bI b3)), (5, .int (bI b5))]) rfl ?_
            exact xb_X12_absence_144 uk hK14 h
def fb_X12_absence_99 (K14 : Int32 → uS → Option uS) (x1 : Int32) (b2 : Bool) (b3 : Bool) (b4 : Bool) (b5 : Bool) (s : uS) : Option uS := if b5 = true then ((iget 20 s 1115 x1).bind fun v2 => if v2 = (-1) then (fb_X12_absence_119 K14 x1 b2 b3 b4 b5 false s) else (fb_X12_absence_119 K14 x1 b2 b3 b4 b5 true s)) else (fb_X12_absence_119 K14 x1 b2 b3 b4 b5 false s)
set_option maxRecDepth 100000 in
set_option maxHeartbeats 4000000 in
theorem xb_X12_absence_99 {l : Launch} {D : va_G} {A : Nat → ClassId} {B : Nat} {Z : State → Heap → Prop} {vF : Value} (uk : uK B Z vF) {K14 : Int32 → uS → Option uS} (hK14 : ∀ (x1 : Int32)  (s : uS) (r : uS), K14 x1 s = some r → GU l D A B Z mX12_absence 10 (r, none) s 14 [(0, .ref (B + 1079)), (1, .int x1)] []) {x1 : Int32} {b2 : Bool} {b3 : Bool} {b4 : Bool} {b5 : Bool} {s : uS} {r : uS}  (h : fb_X12_absence_99 K14 x1 b2 b3 b4 b5 s = some r) : GU l D A B Z mX12_absence 10 (r, none) s 99 [(0, .ref (B + 1079)), (1, .int x1), (2, .int (bI b2)), (3, .int (bI b3)), (4, .int (bI b4)), (5, .int (bI b5))] [] := by
  unfold fb_X12_absence_99 at h
  refine uu_iload dX12_absence_99 (List.mem_of_getElem? (i := 5) rfl) ?_
  refine uu_ifb_eq (tgt := 118) dX12_absence_101 (by decide) (fun c1 => ?_) (fun c1 => ?_)
  · replace h := uu_neg c1 h
    refine uu_iconst (v := 0) dX12_absence_118 (by decide) ?_
    exact xb_X12_absence_119 uk hK14 h
  · replace h := uu_pos c1 h
    refine uu_aload_n dX12_absence_104 rfl (List.mem_of_getElem? (i := 0) rfl) ?_
    refine uu_geta (ci := 12) (N := 153) fX12_328 (by decide) so_1079.is (by decide) (c := 1115) (by decide) dX12_absence_105 ?_
    refine uu_iload_n dX12_absence_108 rfl (List.mem_of_getElem? (i := 1) rfl) ?_
    obtain ⟨v2, e3, h⟩ := uu_ob h
    refine uu_iald e3 dX12_absence_109 ?_
    refine uu_iconst (v := -1) dX12_absence_110 (by decide) ?_
    refine uu_icmp_eq (tgt := 118) dX12_absence_111 (by decide) (fun c4 => ?_) (fun c4 => ?_)
    · replace h := uu_pos c4 h
      refine uu_iconst (v := 0) dX12_absence_118 (by decide) ?_
      exact xb_X12_absence_119 uk hK14 h
    · replace h := uu_neg c4 h
      refine uu_iconst (v := 1) dX12_absence_114 (by decide) ?_
      refine uu_goto (tgt := 119) dX12_absence_115 (by decide) ?_
      exact xb_X12_absence_119 uk hK14 h
def fb_X12_absence_84 (K14 : Int32 → uS → Option uS) (x1 : Int32) (b2 : Bool) (b3 : Bool) (b4 : Bool) (b5 : Bool) (s : uS) : Option uS := if b4 = true then ((iget 20 s 1104 x1).bind fun v2 => if v2 = (-1) then (fb_X12_absence_99 K14 x1 b2 b3 b4 b5 s) else (fb_X12_absence_119 K14 x1 b2 b3 b4 b5 true s)) else (fb_X12_absence_99 K14 x1 b2 b3 b4 b5 s)
set_option maxRecDepth 100000 in
set_option maxHeartbeats 4000000 in
theorem xb_X12_absence_84 {l : Launch} {D : va_G} {A : Nat → ClassId} {B : Nat} {Z : State → Heap → Prop} {vF : Value} (uk : uK B Z vF) {K14 : Int32 → uS → Option uS} (hK14 : ∀ (x1 : Int32)  (s : uS) (r : uS), K14 x1 s = some r → GU l D A B Z mX12_absence 10 (r, none) s 14 [(0, .ref (B + 1079)), (1, .int x1)] []) {x1 : Int32} {b2 : Bool} {b3 : Bool} {b4 : Bool} {b5 : Bool} {s : uS} {r : uS}  (h : fb_X12_absence_84 K14 x1 b2 b3 b4 b5 s = some r) : GU l D A B Z mX12_absence 10 (r, none) s 84 [(0, .ref (B + 1079)), (1, .int x1), (2, .int (bI b2)), (3, .int (bI b3)), (4, .int (bI b4)), (5, .int (bI b5))] [] := by
  unfold fb_X12_absence_84 at h
  refine uu_iload dX12_absence_84 (List.mem_of_getElem? (i := 4) rfl) ?_
  refine uu_ifb_eq (tgt := 99) dX12_absence_86 (by decide) (fun c1 => ?_) (fun c1 => ?_)
  · replace h := uu_neg c1 h
    exact xb_X12_absence_99 uk hK14 h
  · replace h := uu_pos c1 h
    refine uu_aload_n dX12_absence_89 rfl (List.mem_of_getElem? (i := 0) rfl) ?_
    refine uu_geta (ci := 12) (N := 153) fX12_454 (by decide) so_1079.is (by decide) (c := 1104) (by decide) dX12_absence_90 ?_
    refine uu_iload_n dX12_absence_93 rfl (List.mem_of_getElem? (i := 1) rfl) ?_
    obtain ⟨v2, e3, h⟩ := uu_ob h
    refine uu_iald e3 dX12_absence_94 ?_
    refine uu_iconst (v := -1) dX12_absence_95 (by decide) ?_
    refine uu_icmp_ne (tgt := 114) dX12_absence_96 (by decide) (fun c4 => ?_) (fun c4 => ?_)
    · replace h := uu_neg c4 h
      refine uu_iconst (v := 1) dX12_absence_114 (by decide) ?_
      refine uu_goto (tgt := 119) dX12_absence_115 (by decide) ?_
      exact xb_X12_absence_119 uk hK14 h
    · replace h := uu_pos c4 h
      exact xb_X12_absence_99 uk hK14 h
def fb_X12_absence_70 (K14 : Int32 → uS → Option uS) (x1 : Int32) (b2 : Bool) (b3 : Bool) (b4 : Bool) (b5 : Bool) (s : uS) : Option uS := if b3 = true then ((iget 20 s 1114 x1).bind fun v2 => if v2 = (-1) then (fb_X12_absence_84 K14 x1 b2 b3 b4 b5 s) else (fb_X12_absence_119 K14 x1 b2 b3 b4 b5 true s)) else (fb_X12_absence_84 K14 x1 b2 b3 b4 b5 s)
set_option maxRecDepth 100000 in
set_option maxHeartbeats 4000000 in
theorem xb_X12_absence_70 {l : Launch} {D : va_G} {A : Nat → ClassId} {B : Nat} {Z : State → Heap → Prop} {vF : Value} (uk : uK B Z vF) {K14 : Int32 → uS → Option uS} (hK14 : ∀ (x1 : Int32)  (s : uS) (r : uS), K14 x1 s = some r → GU l D A B Z mX12_absence 10 (r, none) s 14 [(0, .ref (B + 1079)), (1, .int x1)] []) {x1 : Int32} {b2 : Bool} {b3 : Bool} {b4 : Bool} {b5 : Bool} {s : uS} {r : uS}  (h : fb_X12_absence_70 K14 x1 b2 b3 b4 b5 s = some r) : GU l D A B Z mX12_absence 10 (r, none) s 70 [(0, .ref (B + 1079)), (1, .int x1), (2, .int (bI b2)), (3, .int (bI b3)), (4, .int (bI b4)), (5, .int (bI b5))] [] := by
  unfold fb_X12_absence_70 at h
  refine uu_iload_n dX12_absence_70 rfl (List.mem_of_getElem? (i := 3) rfl) ?_
  refine uu_ifb_eq (tgt := 84) dX12_absence_71 (by decide) (fun c1 => ?_) (fun c1 => ?_)
  · replace h := uu_neg c1 h
    exact xb_X12_absence_84 uk hK14 h
  · replace h := uu_pos c1 h
    refine uu_aload_n dX12_absence_74 rfl (List.mem_of_getElem? (i := 0) rfl) ?_
    refine uu_geta (ci := 12) (N := 153) fX12_325 (by decide) so_1079.is (by decide) (c := 1114) (by decide) dX12_absence_75 ?_
    refine uu_iload_n dX12_absence_78 rfl (List.mem_of_getElem? (i := 1) rfl) ?_
    obtain ⟨v2, e3, h⟩ := uu_ob h
    refine uu_iald e3 dX12_absence_79 ?_
    refine uu_iconst (v := -1) dX12_absence_80 (by decide) ?_
    refine uu_icmp_ne (tgt := 114) dX12_absence_81 (by decide) (fun c4 => ?_) (fun c4 => ?_)
    · replace h := uu_neg c4 h
      refine uu_iconst (v := 1) dX12_absence_114 (by decide) ?_
      refine uu_goto (tgt := 119) dX12_absence_115 (by decide) ?_
      exact xb_X12_absence_119 uk hK14 h
    · replace h := uu_pos c4 h
      exact xb_X12_absence_84 uk hK14 h
def fb_X12_absence_14 (K14 : Int32 → uS → Option uS) (x1 : Int32) (s : uS) : Option uS := (fn_X12_is 2 s).bind fun v1 => if v1 = true then ((fn_X12_wordIs kW_96 s).bind fun v9 => (fn_X12_wordIs kW_97 s).bind fun v12 => (fn_X12_wordIs kW_98 s).bind fun v15 => (fn_X12_wordIs kW_99 s).bind fun v18 => if v9 = true then ((iget 20 s 1113 x1).bind fun v21 => if v21 = (-1) then (fb_X12_absence_70 K14 x1 v9 v12 v15 v18 s) else (fb_X12_absence_119 K14 x1 v9 v12 v15 v18 true s)) else (fb_X12_absence_70 K14 x1 v9 v12 v15 v18 s)) else ((fn_X12_taken s).bind fun r4 => (iput 20 r4.1 1102 x1 r4.2).bind fun s6 => some s6)
set_option maxRecDepth 100000 in
set_option maxHeartbeats 4000000 in
theorem xb_X12_absence_14 {l : Launch} {D : va_G} {A : Nat → ClassId} {B : Nat} {Z : State → Heap → Prop} {vF : Value} (uk : uK B Z vF) {K14 : Int32 → uS → Option uS} (hK14 : ∀ (x1 : Int32)  (s : uS) (r : uS), K14 x1 s = some r → GU l D A B Z mX12_absence 10 (r, none) s 14 [(0, .ref (B + 1079)), (1, .int x1)] []) {x1 : Int32} {s : uS} {r : uS}  (h : fb_X12_absence_14 K14 x1 s = some r) : GU l D A B Z mX12_absence 10 (r, none) s 14 [(0, .ref (B + 1079)), (1, .int x1)] [] := by
  unfold fb_X12_absence_14 at h
  refine uu_aload_n dX12_absence_14 rfl (List.mem_of_getElem? (i := 0) rfl) ?_
  refine uu_iconst (v := 2) dX12_absence_15 (by decide) ?_
  obtain ⟨v1, e2, h⟩ := uu_ob h
  refine uu_cv (d1 := 0) (k := 1079) (ci := 12) (T := TX12) (N := 153) (As := [.int 2]) (st := []) (st' := [.int (bI v1)]) (xc_X12_is uk  e2) so_1079.is (by decide) rfl kX12_is lX12_273 sX12_is (by decide) (Nat.le_of_ble_eq_true rfl) dX12_absence_16 rfl ?_
  refine uu_ifb_eq (tgt := 251) dX12_absence_19 (by decide) (fun c3 => ?_) (fun c3 => ?_)
  · replace h := uu_neg c3 h
    refine uu_aload_n dX12_absence_251 rfl (List.mem_of_getElem? (i := 0) rfl) ?_
    refine uu_geta (ci := 12) (N := 153) fX12_439 (by decide) so_1079.is (by decide) (c := 1102) (by decide) dX12_absence_252 ?_
    refine uu_iload_n dX12_absence_255 rfl (List.mem_of_getElem? (i := 1) rfl) ?_
    refine uu_aload_n dX12_absence_256 rfl (List.mem_of_getElem? (i := 0) rfl) ?_
    obtain ⟨r4, e5, h⟩ := uu_ob h
    refine uu_cv (d1 := 8) (k := 1079) (ci := 12) (T := TX12) (N := 153) (As := []) (st := [.int x1, .ref (B + 1102)]) (st' := [.int r4.2, .int x1, .ref (B + 1102)]) (xc_X12_taken uk  e5) so_1079.is (by decide) rfl kX12_taken lX12_352 sX12_taken (by decide) (Nat.le_of_ble_eq_true rfl) dX12_absence_257 rfl ?_
    obtain ⟨s6, e7, h⟩ := uu_ob h
    refine uu_iast e7 dX12_absence_260 ?_
    have hr := Option.some.inj h
    subst hr
    exact uu_vret rfl dX12_absence_261
  · replace h := uu_pos c3 h
    refine uu_aload_n dX12_absence_22 rfl (List.mem_of_getElem? (i := 0) rfl) ?_
    obtain ⟨cq8, cp8, cv8, cw8⟩ := uk.2.1 96 _ rfl
    refine uu_ldcwS cv8 dX12_absence_23 ?_
    obtain ⟨v9, e10, h⟩ := uu_ob h
    refine uu_cv (d1 := 4) (k := 1079) (ci := 12) (T := TX12) (N := 153) (As := [.ref cq8]) (st := []) (st' := [.int (bI v9)]) (xc_X12_wordIs uk cw8 e10) so_1079.is (by decide) rfl kX12_wordIs lX12_235 sX12_wordIs (by decide) (Nat.le_of_ble_eq_true rfl) dX12_absence_26 rfl ?_
    refine uu_istore_n dX12_absence_29 rfl (by decide) rfl ?_
    refine uu_aload_n dX12_absence_30 rfl (List.mem_of_getElem? (i := 1) rfl) ?_
    obtain ⟨cq11, cp11, cv11, cw11⟩ := uk.2.1 97 _ rfl
    refine uu_ldcwS cv11 dX12_absence_31 ?_
    obtain ⟨v12, e13, h⟩ := uu_ob h
    refine uu_cv (d1 := 4) (k := 1079) (ci := 12) (T := TX12) (N := 153) (As := [.ref cq11]) (st := []) (st' := [.int (bI v12)]) (xc_X12_wordIs uk cw11 e13) so_1079.is (by decide) rfl kX12_wordIs lX12_235 sX12_wordIs (by decide) (Nat.le_of_ble_eq_true rfl) dX12_absence_34 rfl ?_
    refine uu_istore_n dX12_absence_37 rfl (by decide) rfl ?_
    refine uu_aload_n dX12_absence_38 rfl (List.mem_of_getElem? (i := 2) rfl) ?_
    obtain ⟨cq14, cp14, cv14, cw14⟩ := uk.2.1 98 _ rfl
    refine uu_ldcwS cv14 dX12_absence_39 ?_
    obtain ⟨v15, e16, h⟩ := uu_ob h
    refine uu_cv (d1 := 4) (k := 1079) (ci := 12) (T := TX12) (N := 153) (As := [.ref cq14]) (st := []) (st' := [.int (bI v15)]) (xc_X12_wordIs uk cw14 e16) so_1079.is (by decide) rfl kX12_wordIs lX12_235 sX12_wordIs (by decide) (Nat.le_of_ble_eq_true rfl) dX12_absence_42 rfl ?_
    refine uu_istore dX12_absence_45 (by decide) rfl ?_
    refine uu_aload_n dX12_absence_47 rfl (List.mem_of_getElem? (i := 3) rfl) ?_
    obtain ⟨cq17, cp17, cv17, cw17⟩ := uk.2.1 99 _ rfl
    refine uu_ldcwS cv17 dX12_absence_48 ?_
    obtain ⟨v18, e19, h⟩ := uu_ob h
    refine uu_cv (d1 := 4) (k := 1079) (ci := 12) (T := TX12) (N := 153) (As := [.ref cq17]) (st := []) (st' := [.int (bI v18)]) (xc_X12_wordIs uk cw17 e19) so_1079.is (by decide) rfl kX12_wordIs lX12_235 sX12_wordIs (by decide) (Nat.le_of_ble_eq_true rfl) dX12_absence_51 rfl ?_
    refine uu_istore dX12_absence_54 (by decide) rfl ?_
    refine uu_iload_n dX12_absence_56 rfl (List.mem_of_getElem? (i := 3) rfl) ?_
    refine uu_ifb_eq (tgt := 70) dX12_absence_57 (by decide) (fun c20 => ?_) (fun c20 => ?_)
    · replace h := uu_neg c20 h
      refine uu_lv [4, 5, 3, 2, 1, 0] (lv' := [(0, .ref (B + 1079)), (1, .int x1), (2, .int (bI v9)), (3, .int (bI v12)), (4, .int (bI v15)), (5, .int (bI v18))]) rfl ?_
      exact xb_X12_absence_70 uk hK14 h
    · replace h := uu_pos c20 h
      refine uu_aload_n dX12_absence_60 rfl (List.mem_of_getElem? (i := 4) rfl) ?_
      refine uu_geta (ci := 12) (N := 153) fX12_322 (by decide) so_1079.is (by decide) (c := 1113) (by decide) dX12_absence_61 ?_
      refine uu_iload_n dX12_absence_64 rfl (List.mem_of_getElem? (i := 5) rfl) ?_
      obtain ⟨v21, e22, h⟩ := uu_ob h
      refine uu_iald e22 dX12_absence_65 ?_
      refine uu_iconst (v := -1) dX12_absence_66 (by decide) ?_
      refine uu_icmp_ne (tgt := 114) dX12_absence_67 (by decide) (fun c23 => ?_) (fun c23 => ?_)
      · replace h := uu_neg c23 h
        refine uu_iconst (v := 1) dX12_absence_114 (by decide) ?_
        refine uu_goto (tgt := 119) dX12_absence_115 (by decide) ?_
        refine uu_lv [4, 5, 3, 2, 1, 0] (lv' := [(0, .ref (B + 1079)), (1, .int x1), (2, .int (bI v9)), (3, .int (bI v12)), (4, .int (bI v15)), (5, .int (bI v18))]) rfl ?_
        exact xb_X12_absence_119 uk hK14 h
      · replace h := uu_pos c23 h
        refine uu_lv [4, 5, 3, 2, 1, 0] (lv' := [(0, .ref (B + 1079)), (1, .int x1), (2, .int (bI v9)), (3, .int (bI v12)), (4, .int (bI v15)), (5, .int (bI v18))]) rfl ?_
        exact xb_X12_absence_70 uk hK14 h
def fn_X12_absence_14  : Nat → Int32 → uS → Option uS
  | 0 => fun _ _ => none
  | n + 1 => fb_X12_absence_14 (fn_X12_absence_14  n)
set_option maxRecDepth 100000 in
set_option maxHeartbeats 4000000 in
theorem xn_X12_absence_14 {l : Launch} {D : va_G} {A : Nat → ClassId} {B : Nat} {Z : State → Heap → Prop} {vF : Value} (uk : uK B Z vF)   : ∀ (n : Nat) (x1 : Int32)  (s : uS) (r : uS), fn_X12_absence_14  n x1 s = some r → GU l D A B Z mX12_absence 10 (r, none) s 14 [(0, .ref (B + 1079)), (1, .int x1)] [] := by
  intro n
  induction n with
  | zero => intro x1 s r h
            cases h
  | succ n ih => intro x1 s r h
                 exact xb_X12_absence_14 uk ih  h
def fn_X12_absence (x1 : Int32) (s : uS) : Option uS := (iput 20 s 1113 x1 (-1)).bind fun s1 => (iput 20 s1 1104 x1 (-1)).bind fun s3 => fn_X12_absence_14 uFu x1 s3
set_option maxRecDepth 100000 in
set_option maxHeartbeats 4000000 in
theorem xc_X12_absence {l : Launch} {D : va_G} {A : Nat → ClassId} {B : Nat} {Z : State → Heap → Prop} {vF : Value} (uk : uK B Z vF) {x1 : Int32} {s : uS} {r : uS}  (h : fn_X12_absence x1 s = some r) : CU l D A B Z 10 mX12_absence s [.ref (B + 1079), .int x1] (r, none) := by
  unfold fn_X12_absence at h
  refine cu_of rfl uk.1.1 (Nat.le_of_ble_eq_true rfl) ?_
  show GU _ _ _ _ _ _ _ _ _ 0 [(0, .ref (B + 1079)), (1, .int x1)] []
  refine uu_aload_n dX12_absence_0 rfl (List.mem_of_getElem? (i := 0) rfl) ?_
  refine uu_geta (ci := 12) (N := 153) fX12_322 (by decide) so_1079.is (by decide) (c := 1113) (by decide) dX12_absence_1 ?_
  refine uu_iload_n dX12_absence_4 rfl (List.mem_of_getElem? (i := 1) rfl) ?_
  refine uu_iconst (v := -1) dX12_absence_5 (by decide) ?_
  obtain ⟨s1, e2, h⟩ := uu_ob h
  refine uu_iast e2 dX12_absence_6 ?_
  refine uu_aload_n dX12_absence_7 rfl (List.mem_of_getElem? (i := 0) rfl) ?_
  refine uu_geta (ci := 12) (N := 153) fX12_454 (by decide) so_1079.is (by decide) (c := 1104) (by decide) dX12_absence_8 ?_
  refine uu_iload_n dX12_absence_11 rfl (List.mem_of_getElem? (i := 1) rfl) ?_
  refine uu_iconst (v := -1) dX12_absence_12 (by decide) ?_
  obtain ⟨s3, e4, h⟩ := uu_ob h
  refine uu_iast e4 dX12_absence_13 ?_
  exact xn_X12_absence_14 uk  _ _ _ _ h
abbrev mX12_store : hM := (yX12_store, cX12_store, 3, none)
theorem dX12_store_0 : decode cX12_store 0 = .ok (.bipush 56, 2) := by decide +kernel
theorem dX12_store_2 : decode cX12_store 2 = .ok (.bipush 8, 2) := by decide +kernel
theorem dX12_store_4 : decode cX12_store 4 = .ok (.aload_n 0, 1) := by decide +kernel
theorem dX12_store_5 : decode cX12_store 5 = .ok (.getfield 552, 3) := by decide +kernel
theorem dX12_store_8 : decode cX12_store 8 = .ok (.bipush 8, 2) := by decide +kernel
theorem dX12_store_10 : decode cX12_store 10 = .ok (.irem, 1) := by decide +kernel
theorem dX12_store_11 : decode cX12_store 11 = .ok (.imul, 1) := by decide +kernel
theorem dX12_store_12 : decode cX12_store 12 = .ok (.isub, 1) := by decide +kernel
theorem dX12_store_13 : decode cX12_store 13 = .ok (.istore_n 2, 1) := by decide +kernel
theorem dX12_store_14 : decode cX12_store 14 = .ok (.aload_n 0, 1) := by decide +kernel
theorem dX12_store_15 : decode cX12_store 15 = .ok (.getfield 555, 3) := by decide +kernel
theorem dX12_store_18 : decode cX12_store 18 = .ok (.aload_n 0, 1) := by decide +kernel
theorem dX12_store_19 : decode cX12_store 19 = .ok (.getfield 552, 3) := by decide +kernel
theorem dX12_store_22 : decode cX12_store 22 = .ok (.bipush 8, 2) := by decide +kernel
theorem dX12_store_24 : decode cX12_store 24 = .ok (.idiv, 1) := by decide +kernel
theorem dX12_store_25 : decode cX12_store 25 = .ok (.aload_n 0, 1) := by decide +kernel
theorem dX12_store_26 : decode cX12_store 26 = .ok (.getfield 555, 3) := by decide +kernel
theorem dX12_store_29 : decode cX12_store 29 = .ok (.aload_n 0, 1) := by decide +kernel
theorem dX12_store_30 : decode cX12_store 30 = .ok (.getfield 552, 3) := by decide +kernel
theorem dX12_store_33 : decode cX12_store 33 = .ok (.bipush 8, 2) := by decide +kernel
theorem dX12_store_35 : decode cX12_store 35 = .ok (.idiv, 1) := by decide +kernel
theorem dX12_store_36 : decode cX12_store 36 = .ok (.laload, 1) := by decide +kernel
theorem cX12_559 : Cond.constantLong RX12 559 (255) ∈ lw_g := h_t10 150 rfl rfl
theorem dX12_store_37 : decode cX12_store 37 = .ok (.ldc2_w 559, 3) := by decide +kernel
theorem dX12_store_40 : decode cX12_store 40 = .ok (.iload_n 2, 1) := by decide +kernel
theorem dX12_store_41 : decode cX12_store 41 = .ok (.lshl, 1) := by decide +kernel
theorem dX12_store_42 : decode cX12_store 42 = .ok (.ldc2_w 561, 3) := by decide +kernel
theorem dX12_store_45 : decode cX12_store 45 = .ok (.lxor, 1) := by decide +kernel
theorem dX12_store_46 : decode cX12_store 46 = .ok (.land, 1) := by decide +kernel
theorem dX12_store_47 : decode cX12_store 47 = .ok (.iload_n 1, 1) := by decide +kernel
theorem dX12_store_48 : decode cX12_store 48 = .ok (.sipush 255, 3) := by decide +kernel
theorem dX12_store_51 : decode cX12_store 51 = .ok (.iand, 1) := by decide +kernel
theorem dX12_store_52 : decode cX12_store 52 = .ok (.i2l, 1) := by decide +kernel
theorem dX12_store_53 : decode cX12_store 53 = .ok (.iload_n 2, 1) := by decide +kernel
theorem dX12_store_54 : decode cX12_store 54 = .ok (.lshl, 1) := by decide +kernel
theorem dX12_store_55 : decode cX12_store 55 = .ok (.lor, 1) := by decide +kernel
theorem dX12_store_56 : decode cX12_store 56 = .ok (.lastore, 1) := by decide +kernel
theorem dX12_store_57 : decode cX12_store 57 = .ok (.aload_n 0, 1) := by decide +kernel
theorem dX12_store_58 : decode cX12_store 58 = .ok (.aload_n 0, 1) := by decide +kernel
theorem dX12_store_59 : decode cX12_store 59 = .ok (.getfield 552, 3) := by decide +kernel
theorem dX12_store_62 : decode cX12_store 62 = .ok (.iconst 1, 1) := by decide +kernel
theorem dX12_store_63 : decode cX12_store 63 = .ok (.iadd, 1) := by decide +kernel
theorem dX12_store_64 : decode cX12_store 64 = .ok (.putfield 552, 3) := by decide +kernel
theorem dX12_store_67 : decode cX12_store 67 = .ok (.return_, 1) := by decide +kernel
def fn_X12_store (x1 : Int32) (s : uS) : Option uS := (lget s 1118 ((s.I 1079 69) / 8)).bind fun v1 => (lput s 1118 ((s.I 1079 69) / 8) ((v1 &&& (((255 : Int64) <<< (((56 : Int32) - ((8 : Int32) * ((s.I 1079 69) - (s.I 1079 69) / 8 * 8))).toInt64 &&& 63)) ^^^ (-1))) ||| (((x1 &&& 255).toInt64) <<< (((56 : Int32) - ((8 : Int32) * ((s.I 1079 69) - (s.I 1079 69) / 8 * 8))).toInt64 &&& 63)))).bind fun s3 => some (wI s3 1079 69 ((s3.I 1079 69) + 1))
set_option maxRecDepth 100000 in
set_option maxHeartbeats 4000000 in
theorem xc_X12_store {l : Launch} {D : va_G} {A : Nat → ClassId} {B : Nat} {Z : State → Heap → Prop} {vF : Value} (uk : uK B Z vF) {x1 : Int32} {s : uS} {r : uS}  (h : fn_X12_store x1 s = some r) : CU l D A B Z 0 mX12_store s [.ref (B + 1079), .int x1] (r, none) := by
  unfold fn_X12_store at h
  refine cu_of rfl uk.1.1 (Nat.le_of_ble_eq_true rfl) ?_
  show GU _ _ _ _ _ _ _ _ _ 0 [(0, .ref (B + 1079)), (1, .int x1)] []
  refine uu_bipush (v := 56) dX12_store_0 (by decide) ?_
  refine uu_bipush (v := 8) dX12_store_2 (by decide) ?_
  refine uu_aload_n dX12_store_4 rfl (List.mem_of_getElem? (i := 0) rfl) ?_
  refine uu_geti (ci := 12) (N := 153) fX12_552 (by decide) so_1079.is (by decide) (by decide) dX12_store_5 ?_
  refine uu_bipush (v := 8) dX12_store_8 (by decide) ?_
  refine uu_irem dX12_store_10 (by decide) ?_
  refine uu_imul dX12_store_11 ?_
  refine uu_isub dX12_store_12 ?_
  refine uu_istore_n dX12_store_13 rfl (by decide) rfl ?_
  refine uu_aload_n dX12_store_14 rfl (List.mem_of_getElem? (i := 1) rfl) ?_
  refine uu_geta (ci := 12) (N := 153) fX12_555 (by decide) so_1079.is (by decide) (c := 1118) (by decide) dX12_store_15 ?_
  refine uu_aload_n dX12_store_18 rfl (List.mem_of_getElem? (i := 1) rfl) ?_
  refine uu_geti (ci := 12) (N := 153) fX12_552 (by decide) so_1079.is (by decide) (by decide) dX12_store_19 ?_
  refine uu_bipush (v := 8) dX12_store_22 (by decide) ?_
  refine uu_idiv dX12_store_24 (by decide) ?_
  refine uu_aload_n dX12_store_25 rfl (List.mem_of_getElem? (i := 1) rfl) ?_
  refine uu_geta (ci := 12) (N := 153) fX12_555 (by decide) so_1079.is (by decide) (c := 1118) (by decide) dX12_store_26 ?_
  refine uu_aload_n dX12_store_29 rfl (List.mem_of_getElem? (i := 1) rfl) ?_
  refine uu_geti (ci := 12) (N := 153) fX12_552 (by decide) so_1079.is (by decide) (by decide) dX12_store_30 ?_
  refine uu_bipush (v := 8) dX12_store_33 (by decide) ?_
  refine uu_idiv dX12_store_35 (by decide) ?_
  obtain ⟨v1, e2, h⟩ := uu_ob h
  refine uu_lald e2 dX12_store_36 ?_
  refine uu_ldc2 (v := 255) cX12_559 dX12_store_37 ?_
  refine uu_iload_n dX12_store_40 rfl (List.mem_of_getElem? (i := 0) rfl) ?_
  refine uu_lshl dX12_store_41 rfl ?_
  refine uu_ldc2 (v := -1) cX12_561 dX12_store_42 ?_
  refine uu_lxor dX12_store_45 ?_
  refine uu_land dX12_store_46 ?_
  refine uu_iload_n dX12_store_47 rfl (List.mem_of_getElem? (i := 2) rfl) ?_
  refine uu_sipush (v := 255) dX12_store_48 (by decide) ?_
  refine uu_iand dX12_store_51 ?_
  refine uu_i2l dX12_store_52 rfl ?_
  refine uu_iload_n dX12_store_53 rfl (List.mem_of_getElem? (i := 0) rfl) ?_
  refine uu_lshl dX12_store_54 rfl ?_
  refine uu_lor dX12_store_55 ?_
  obtain ⟨s3, e4, h⟩ := uu_ob h
  refine uu_last e4 dX12_store_56 ?_
  refine uu_aload_n dX12_store_57 rfl (List.mem_of_getElem? (i := 1) rfl) ?_
  refine uu_aload_n dX12_store_58 rfl (List.mem_of_getElem? (i := 1) rfl) ?_
  refine uu_geti (ci := 12) (N := 153) fX12_552 (by decide) so_1079.is (by decide) (by decide) dX12_store_59 ?_
  refine uu_iconst (v := 1) dX12_store_62 (by decide) ?_
  refine uu_iadd dX12_store_63 ?_
  refine uu_puti (ft := .int) (ci := 12) (N := 153) fX12_552 ptX12 (Or.inl rfl) (by decide) so_1079.is (by decide) (by decide) (by decide +kernel) rfl rfl dX12_store_64 ?_
  have hr := Option.some.inj h
  subst hr
  exact uu_vret rfl dX12_store_67
theorem dX12_storedAt_0 : decode cX12_storedAt 0 = .ok (.aload_n 0, 1) := by decide +kernel
theorem dX12_storedAt_1 : decode cX12_storedAt 1 = .ok (.getfield 555, 3) := by decide +kernel
theorem dX12_storedAt_4 : decode cX12_storedAt 4 = .ok (.iload_n 1, 1) := by decide +kernel
theorem dX12_storedAt_5 : decode cX12_storedAt 5 = .ok (.bipush 8, 2) := by decide +kernel
theorem dX12_storedAt_7 : decode cX12_storedAt 7 = .ok (.idiv, 1) := by decide +kernel
theorem dX12_storedAt_8 : decode cX12_storedAt 8 = .ok (.laload, 1) := by decide +kernel
theorem dX12_storedAt_9 : decode cX12_storedAt 9 = .ok (.bipush 56, 2) := by decide +kernel
theorem dX12_storedAt_11 : decode cX12_storedAt 11 = .ok (.bipush 8, 2) := by decide +kernel
theorem dX12_storedAt_13 : decode cX12_storedAt 13 = .ok (.iload_n 1, 1) := by decide +kernel
theorem dX12_storedAt_14 : decode cX12_storedAt 14 = .ok (.bipush 8, 2) := by decide +kernel
theorem dX12_storedAt_16 : decode cX12_storedAt 16 = .ok (.irem, 1) := by decide +kernel
theorem dX12_storedAt_17 : decode cX12_storedAt 17 = .ok (.imul, 1) := by decide +kernel
theorem dX12_storedAt_18 : decode cX12_storedAt 18 = .ok (.isub, 1) := by decide +kernel
theorem dX12_storedAt_19 : decode cX12_storedAt 19 = .ok (.lshr, 1) := by decide +kernel
theorem dX12_storedAt_20 : decode cX12_storedAt 20 = .ok (.l2i, 1) := by decide +kernel
theorem dX12_storedAt_21 : decode cX12_storedAt 21 = .ok (.sipush 255, 3) := by decide +kernel
theorem dX12_storedAt_24 : decode cX12_storedAt 24 = .ok (.iand, 1) := by decide +kernel
theorem dX12_storedAt_25 : decode cX12_storedAt 25 = .ok (.ireturn, 1) := by decide +kernel
def fn_X12_storedAt (x1 : Int32) (s : uS) : Option Int32 := (lget s 1118 (x1 / 8)).bind fun v1 => some (((v1 >>> (((56 : Int32) - ((8 : Int32) * (x1 - x1 / 8 * 8))).toInt64 &&& 63)).toInt32) &&& 255)
set_option maxRecDepth 100000 in
set_option maxHeartbeats 4000000 in
theorem xc_X12_storedAt {l : Launch} {D : va_G} {A : Nat → ClassId} {B : Nat} {Z : State → Heap → Prop} {vF : Value} (uk : uK B Z vF) {x1 : Int32} {s : uS} {r : Int32}  (h : fn_X12_storedAt x1 s = some r) : CU l D A B Z 0 mX12_storedAt s [.ref (B + 1079), .int x1] (s, some (.int r)) := by
  unfold fn_X12_storedAt at h
  refine cu_of rfl uk.1.1 (Nat.le_of_ble_eq_true rfl) ?_
  show GU _ _ _ _ _ _ _ _ _ 0 [(0, .ref (B + 1079)), (1, .int x1)] []
  refine uu_aload_n dX12_storedAt_0 rfl (List.mem_of_getElem? (i := 0) rfl) ?_
  refine uu_geta (ci := 12) (N := 153) fX12_555 (by decide) so_1079.is (by decide) (c := 1118) (by decide) dX12_storedAt_1 ?_
  refine uu_iload_n dX12_storedAt_4 rfl (List.mem_of_getElem? (i := 1) rfl) ?_
  refine uu_bipush (v := 8) dX12_storedAt_5 (by decide) ?_
  refine uu_idiv dX12_storedAt_7 (by decide) ?_
  obtain ⟨v1, e2, h⟩ := uu_ob h
  refine uu_lald e2 dX12_storedAt_8 ?_
  refine uu_bipush (v := 56) dX12_storedAt_9 (by decide) ?_
  refine uu_bipush (v := 8) dX12_storedAt_11 (by decide) ?_
  refine uu_iload_n dX12_storedAt_13 rfl (List.mem_of_getElem? (i := 1) rfl) ?_
  refine uu_bipush (v := 8) dX12_storedAt_14 (by decide) ?_
  refine uu_irem dX12_storedAt_16 (by decide) ?_
  refine uu_imul dX12_storedAt_17 ?_
  refine uu_isub dX12_storedAt_18 ?_
  refine uu_lshr dX12_storedAt_19 rfl ?_
  refine uu_l2i dX12_storedAt_20 rfl ?_
  refine uu_sipush (v := 255) dX12_storedAt_21 (by decide) ?_
  refine uu_iand dX12_storedAt_24 ?_
  have hr := Option.some.inj h
  subst hr
  exact uu_iret rfl dX12_storedAt_25
abbrev mX12_beginMail : hM := (yX12_beginMail, cX12_beginMail, 5, (some (.int)))
theorem dX12_beginMail_0 : decode cX12_beginMail 0 = .ok (.aload_n 0, 1) := by decide +kernel
theorem dX12_beginMail_1 : decode cX12_beginMail 1 = .ok (.getfield 563, 3) := by decide +kernel
theorem dX12_beginMail_4 : decode cX12_beginMail 4 = .ok (.aload_n 0, 1) := by decide +kernel
theorem dX12_beginMail_5 : decode cX12_beginMail 5 = .ok (.getfield 566, 3) := by decide +kernel
theorem dX12_beginMail_8 : decode cX12_beginMail 8 = .ok (.iadd, 1) := by decide +kernel
theorem dX12_beginMail_9 : decode cX12_beginMail 9 = .ok (.istore 4, 2) := by decide +kernel
theorem dX12_beginMail_11 : decode cX12_beginMail 11 = .ok (.aload_n 0, 1) := by decide +kernel
theorem dX12_beginMail_12 : decode cX12_beginMail 12 = .ok (.getfield 569, 3) := by decide +kernel
theorem dX12_beginMail_15 : decode cX12_beginMail 15 = .ok (.iload 4, 2) := by decide +kernel
theorem dX12_beginMail_17 : decode cX12_beginMail 17 = .ok (.iload_n 1, 1) := by decide +kernel
theorem dX12_beginMail_18 : decode cX12_beginMail 18 = .ok (.iastore, 1) := by decide +kernel
theorem dX12_beginMail_19 : decode cX12_beginMail 19 = .ok (.aload_n 0, 1) := by decide +kernel
theorem dX12_beginMail_20 : decode cX12_beginMail 20 = .ok (.getfield 572, 3) := by decide +kernel
theorem dX12_beginMail_23 : decode cX12_beginMail 23 = .ok (.iload 4, 2) := by decide +kernel
theorem dX12_beginMail_25 : decode cX12_beginMail 25 = .ok (.iload_n 2, 1) := by decide +kernel
theorem dX12_beginMail_26 : decode cX12_beginMail 26 = .ok (.iastore, 1) := by decide +kernel
theorem dX12_beginMail_27 : decode cX12_beginMail 27 = .ok (.aload_n 0, 1) := by decide +kernel
theorem dX12_beginMail_28 : decode cX12_beginMail 28 = .ok (.getfield 575, 3) := by decide +kernel
theorem dX12_beginMail_31 : decode cX12_beginMail 31 = .ok (.iload 4, 2) := by decide +kernel
theorem dX12_beginMail_33 : decode cX12_beginMail 33 = .ok (.aload_n 0, 1) := by decide +kernel
theorem dX12_beginMail_34 : decode cX12_beginMail 34 = .ok (.getfield 552, 3) := by decide +kernel
theorem dX12_beginMail_37 : decode cX12_beginMail 37 = .ok (.iastore, 1) := by decide +kernel
theorem dX12_beginMail_38 : decode cX12_beginMail 38 = .ok (.aload_n 0, 1) := by decide +kernel
theorem dX12_beginMail_39 : decode cX12_beginMail 39 = .ok (.getfield 578, 3) := by decide +kernel
theorem dX12_beginMail_42 : decode cX12_beginMail 42 = .ok (.iload 4, 2) := by decide +kernel
theorem dX12_beginMail_44 : decode cX12_beginMail 44 = .ok (.iconst 0, 1) := by decide +kernel
theorem dX12_beginMail_45 : decode cX12_beginMail 45 = .ok (.iastore, 1) := by decide +kernel
theorem dX12_beginMail_46 : decode cX12_beginMail 46 = .ok (.aload_n 0, 1) := by decide +kernel
theorem dX12_beginMail_47 : decode cX12_beginMail 47 = .ok (.getfield 581, 3) := by decide +kernel
theorem dX12_beginMail_50 : decode cX12_beginMail 50 = .ok (.iload 4, 2) := by decide +kernel
theorem dX12_beginMail_52 : decode cX12_beginMail 52 = .ok (.iload_n 3, 1) := by decide +kernel
theorem dX12_beginMail_53 : decode cX12_beginMail 53 = .ok (.iastore, 1) := by decide +kernel
theorem dX12_beginMail_54 : decode cX12_beginMail 54 = .ok (.iload_n 1, 1) := by decide +kernel
theorem dX12_beginMail_55 : decode cX12_beginMail 55 = .ok (.iconst 4, 1) := by decide +kernel
theorem dX12_beginMail_56 : decode cX12_beginMail 56 = .ok (.if_icmp .ge 13, 3) := by decide +kernel
theorem dX12_beginMail_69 : decode cX12_beginMail 69 = .ok (.iload 4, 2) := by decide +kernel
theorem dX12_beginMail_71 : decode cX12_beginMail 71 = .ok (.ireturn, 1) := by decide +kernel
theorem dX12_beginMail_59 : decode cX12_beginMail 59 = .ok (.aload_n 0, 1) := by decide +kernel
theorem dX12_beginMail_60 : decode cX12_beginMail 60 = .ok (.aload_n 0, 1) := by decide +kernel
theorem dX12_beginMail_61 : decode cX12_beginMail 61 = .ok (.getfield 563, 3) := by decide +kernel
theorem dX12_beginMail_64 : decode cX12_beginMail 64 = .ok (.iconst 1, 1) := by decide +kernel
theorem dX12_beginMail_65 : decode cX12_beginMail 65 = .ok (.iadd, 1) := by decide +kernel
theorem dX12_beginMail_66 : decode cX12_beginMail 66 = .ok (.putfield 563, 3) := by decide +kernel
def fn_X12_beginMail (x1 : Int32) (x2 : Int32) (x3 : Int32) (s : uS) : Option (uS × Int32) := (iput 20 s 1119 ((s.I 1079 70) + (s.I 1079 71)) x1).bind fun s1 => (iput 20 s1 1120 ((s.I 1079 70) + (s.I 1079 71)) x2).bind fun s3 => (iput 20 s3 1121 ((s.I 1079 70) + (s.I 1079 71)) (s3.I 1079 69)).bind fun s5 => (iput 20 s5 1122 ((s.I 1079 70) + (s.I 1079 71)) 0).bind fun s7 => (iput 20 s7 1123 ((s.I 1079 70) + (s.I 1079 71)) x3).bind fun s9 => if (4 : Int32) ≤ x1 then (some (s9, (s.I 1079 70) + (s.I 1079 71))) else (some (wI s9 1079 70 ((s9.I 1079 70) + 1), (s.I 1079 70) + (s.I 1079 71)))
set_option maxRecDepth 100000 in
set_option maxHeartbeats 4000000 in
theorem xc_X12_beginMail {l : Launch} {D : va_G} {A : Nat → ClassId} {B : Nat} {Z : State → Heap → Prop} {vF : Value} (uk : uK B Z vF) {x1 : Int32} {x2 : Int32} {x3 : Int32} {s : uS} {r : (uS × Int32)}  (h : fn_X12_beginMail x1 x2 x3 s = some r) : CU l D A B Z 0 mX12_beginMail s [.ref (B + 1079), .int x1, .int x2, .int x3] (r.1, some (.int r.2)) := by
  unfold fn_X12_beginMail at h
  refine cu_of rfl uk.1.1 (Nat.le_of_ble_eq_true rfl) ?_
  show GU _ _ _ _ _ _ _ _ _ 0 [(0, .ref (B + 1079)), (1, .int x1), (2, .int x2), (3, .int x3)] []
  refine uu_aload_n dX12_beginMail_0 rfl (List.mem_of_getElem? (i := 0) rfl) ?_
  refine uu_geti (ci := 12) (N := 153) fX12_563 (by decide) so_1079.is (by decide) (by decide) dX12_beginMail_1 ?_
  refine uu_aload_n dX12_beginMail_4 rfl (List.mem_of_getElem? (i := 0) rfl) ?_
  refine uu_geti (ci := 12) (N := 153) fX12_566 (by decide) so_1079.is (by decide) (by decide) dX12_beginMail_5 ?_
  refine uu_iadd dX12_beginMail_8 ?_
  refine uu_istore dX12_beginMail_9 (by decide) rfl ?_
  refine uu_aload_n dX12_beginMail_11 rfl (List.mem_of_getElem? (i := 1) rfl) ?_
  refine uu_geta (ci := 12) (N := 153) fX12_569 (by decide) so_1079.is (by decide) (c := 1119) (by decide) dX12_beginMail_12 ?_
  refine uu_iload dX12_beginMail_15 (List.mem_of_getElem? (i := 0) rfl) ?_
  refine uu_iload_n dX12_beginMail_17 rfl (List.mem_of_getElem? (i := 2) rfl) ?_
  obtain ⟨s1, e2, h⟩ := uu_ob h
  refine uu_iast e2 dX12_beginMail_18 ?_
  refine uu_aload_n dX12_beginMail_19 rfl (List.mem_of_getElem? (i := 1) rfl) ?_
  refine uu_geta (ci := 12) (N := 153) fX12_572 (by decide) so_1079.is (by decide) (c := 1120) (by decide) dX12_beginMail_20 ?_
  refine uu_iload dX12_beginMail_23 (List.mem_of_getElem? (i := 0) rfl) ?_
  refine uu_iload_n dX12_beginMail_25 rfl (List.mem_of_getElem? (i := 3) rfl) ?_
  obtain ⟨s3, e4, h⟩ := uu_ob h
  refine uu_iast e4 dX12_beginMail_26 ?_
  refine uu_aload_n dX12_beginMail_27 rfl (List.mem_of_getElem? (i := 1) rfl) ?_
  refine uu_geta (ci := 12) (N := 153) fX12_575 (by decide) so_1079.is (by decide) (c := 1121) (by decide) dX12_beginMail_28 ?_
  refine uu_iload dX12_beginMail_31 (List.mem_of_getElem? (i := 0) rfl) ?_
  refine uu_aload_n dX12_beginMail_33 rfl (List.mem_of_getElem? (i := 1) rfl) ?_
  refine uu_geti (ci := 12) (N := 153) fX12_552 (by decide) so_1079.is (by decide) (by decide) dX12_beginMail_34 ?_
  obtain ⟨s5, e6, h⟩ := uu_ob h
  refine uu_iast e6 dX12_beginMail_37 ?_
  refine uu_aload_n dX12_beginMail_38 rfl (List.mem_of_getElem? (i := 1) rfl) ?_
  refine uu_geta (ci := 12) (N := 153) fX12_578 (by decide) so_1079.is (by decide) (c := 1122) (by decide) dX12_beginMail_39 ?_
  refine uu_iload dX12_beginMail_42 (List.mem_of_getElem? (i := 0) rfl) ?_
  refine uu_iconst (v := 0) dX12_beginMail_44 (by decide) ?_
  obtain ⟨s7, e8, h⟩ := uu_ob h
  refine uu_iast e8 dX12_beginMail_45 ?_
  refine uu_aload_n dX12_beginMail_46 rfl (List.mem_of_getElem? (i := 1) rfl) ?_
  refine uu_geta (ci := 12) (N := 153) fX12_581 (by decide) so_1079.is (by decide) (c := 1123) (by decide) dX12_beginMail_47 ?_
  refine uu_iload dX12_beginMail_50 (List.mem_of_getElem? (i := 0) rfl) ?_
  refine uu_iload_n dX12_beginMail_52 rfl (List.mem_of_getElem? (i := 4) rfl) ?_
  obtain ⟨s9, e10, h⟩ := uu_ob h
  refine uu_iast e10 dX12_beginMail_53 ?_
  refine uu_iload_n dX12_beginMail_54 rfl (List.mem_of_getElem? (i := 2) rfl) ?_
  refine uu_iconst (v := 4) dX12_beginMail_55 (by decide) ?_
  refine uu_icmp_ge (tgt := 69) dX12_beginMail_56 (by decide) (fun c11 => ?_) (fun c11 => ?_)
  · replace h := uu_pos c11 h
    refine uu_iload dX12_beginMail_69 (List.mem_of_getElem? (i := 0) rfl) ?_
    have hr := Option.some.inj h
    subst hr
    exact uu_iret rfl dX12_beginMail_71
  · replace h := uu_neg c11 h
    refine uu_aload_n dX12_beginMail_59 rfl (List.mem_of_getElem? (i := 1) rfl) ?_
    refine uu_aload_n dX12_beginMail_60 rfl (List.mem_of_getElem? (i := 1) rfl) ?_
    refine uu_geti (ci := 12) (N := 153) fX12_563 (by decide) so_1079.is (by decide) (by decide) dX12_beginMail_61 ?_
    refine uu_iconst (v := 1) dX12_beginMail_64 (by decide) ?_
    refine uu_iadd dX12_beginMail_65 ?_
    refine uu_puti (ft := .int) (ci := 12) (N := 153) fX12_563 ptX12 (Or.inl rfl) (by decide) so_1079.is (by decide) (by decide) (by decide +kernel) rfl rfl dX12_beginMail_66 ?_
    refine uu_iload dX12_beginMail_69 (List.mem_of_getElem? (i := 0) rfl) ?_
    have hr := Option.some.inj h
    subst hr
    exact uu_iret rfl dX12_beginMail_71
abbrev mX12_handleAt : hM := (yX12_handleAt, cX12_handleAt, 6, (some (.int)))
theorem dX12_handleAt_34 : decode cX12_handleAt 34 = .ok (.lstore 4, 2) := by decide +kernel
theorem dX12_handleAt_36 : decode cX12_handleAt 36 = .ok (.lload 4, 2) := by decide +kernel
theorem dX12_handleAt_38 : decode cX12_handleAt 38 = .ok (.bipush 56, 2) := by decide +kernel
theorem dX12_handleAt_40 : decode cX12_handleAt 40 = .ok (.bipush 8, 2) := by decide +kernel
theorem dX12_handleAt_42 : decode cX12_handleAt 42 = .ok (.iload_n 2, 1) := by decide +kernel
theorem dX12_handleAt_43 : decode cX12_handleAt 43 = .ok (.bipush 8, 2) := by decide +kernel
theorem dX12_handleAt_45 : decode cX12_handleAt 45 = .ok (.irem, 1) := by decide +kernel
theorem dX12_handleAt_46 : decode cX12_handleAt 46 = .ok (.imul, 1) := by decide +kernel
theorem dX12_handleAt_47 : decode cX12_handleAt 47 = .ok (.isub, 1) := by decide +kernel
theorem dX12_handleAt_48 : decode cX12_handleAt 48 = .ok (.lshr, 1) := by decide +kernel
theorem dX12_handleAt_49 : decode cX12_handleAt 49 = .ok (.l2i, 1) := by decide +kernel
theorem dX12_handleAt_50 : decode cX12_handleAt 50 = .ok (.sipush 255, 3) := by decide +kernel
theorem dX12_handleAt_53 : decode cX12_handleAt 53 = .ok (.iand, 1) := by decide +kernel
theorem dX12_handleAt_54 : decode cX12_handleAt 54 = .ok (.ireturn, 1) := by decide +kernel
theorem dX12_handleAt_0 : decode cX12_handleAt 0 = .ok (.iload_n 1, 1) := by decide +kernel
theorem dX12_handleAt_1 : decode cX12_handleAt 1 = .ok (.bipush 80, 2) := by decide +kernel
theorem dX12_handleAt_3 : decode cX12_handleAt 3 = .ok (.irem, 1) := by decide +kernel
theorem dX12_handleAt_4 : decode cX12_handleAt 4 = .ok (.bipush 125, 2) := by decide +kernel
theorem dX12_handleAt_6 : decode cX12_handleAt 6 = .ok (.imul, 1) := by decide +kernel
theorem dX12_handleAt_7 : decode cX12_handleAt 7 = .ok (.iload_n 2, 1) := by decide +kernel
theorem dX12_handleAt_8 : decode cX12_handleAt 8 = .ok (.bipush 8, 2) := by decide +kernel
theorem dX12_handleAt_10 : decode cX12_handleAt 10 = .ok (.idiv, 1) := by decide +kernel
theorem dX12_handleAt_11 : decode cX12_handleAt 11 = .ok (.iadd, 1) := by decide +kernel
theorem dX12_handleAt_12 : decode cX12_handleAt 12 = .ok (.istore_n 3, 1) := by decide +kernel
theorem dX12_handleAt_13 : decode cX12_handleAt 13 = .ok (.iload_n 1, 1) := by decide +kernel
theorem dX12_handleAt_14 : decode cX12_handleAt 14 = .ok (.bipush 80, 2) := by decide +kernel
theorem dX12_handleAt_16 : decode cX12_handleAt 16 = .ok (.if_icmp .ge 12, 3) := by decide +kernel
theorem dX12_handleAt_28 : decode cX12_handleAt 28 = .ok (.aload_n 0, 1) := by decide +kernel
theorem dX12_handleAt_29 : decode cX12_handleAt 29 = .ok (.getfield 587, 3) := by decide +kernel
theorem dX12_handleAt_32 : decode cX12_handleAt 32 = .ok (.iload_n 3, 1) := by decide +kernel
theorem dX12_handleAt_33 : decode cX12_handleAt 33 = .ok (.laload, 1) := by decide +kernel
theorem dX12_handleAt_19 : decode cX12_handleAt 19 = .ok (.aload_n 0, 1) := by decide +kernel
theorem dX12_handleAt_20 : decode cX12_handleAt 20 = .ok (.getfield 584, 3) := by decide +kernel
theorem dX12_handleAt_23 : decode cX12_handleAt 23 = .ok (.iload_n 3, 1) := by decide +kernel
theorem dX12_handleAt_24 : decode cX12_handleAt 24 = .ok (.laload, 1) := by decide +kernel
theorem dX12_handleAt_25 : decode cX12_handleAt 25 = .ok (.goto 9, 3) := by decide +kernel
def fb_X12_handleAt_34  (x2 : Int32) (ls0 : Int64) (s : uS) : Option Int32 := some (((ls0 >>> (((56 : Int32) - ((8 : Int32) * (x2 - x2 / 8 * 8))).toInt64 &&& 63)).toInt32) &&& 255)
set_option maxRecDepth 100000 in
set_option maxHeartbeats 4000000 in
theorem xb_X12_handleAt_34 {l : Launch} {D : va_G} {A : Nat → ClassId} {B : Nat} {Z : State → Heap → Prop} {vF : Value} (uk : uK B Z vF)   {x2 : Int32} {ls0 : Int64} {s : uS} {r : Int32}  (h : fb_X12_handleAt_34  x2 ls0 s = some r) : GU l D A B Z mX12_handleAt 0 (s, some (.int r)) s 34 [(2, .int x2)] [.long ls0] := by
  unfold fb_X12_handleAt_34 at h
  refine uu_lstore dX12_handleAt_34 (by decide) rfl ?_
  refine uu_lload dX12_handleAt_36 (List.mem_of_getElem? (i := 0) rfl) ?_
  refine uu_bipush (v := 56) dX12_handleAt_38 (by decide) ?_
  refine uu_bipush (v := 8) dX12_handleAt_40 (by decide) ?_
  refine uu_iload_n dX12_handleAt_42 rfl (List.mem_of_getElem? (i := 1) rfl) ?_
  refine uu_bipush (v := 8) dX12_handleAt_43 (by decide) ?_
  refine uu_irem dX12_handleAt_45 (by decide) ?_
  refine uu_imul dX12_handleAt_46 ?_
  refine uu_isub dX12_handleAt_47 ?_
  refine uu_lshr dX12_handleAt_48 rfl ?_
  refine uu_l2i dX12_handleAt_49 rfl ?_
  refine uu_sipush (v := 255) dX12_handleAt_50 (by decide) ?_
  refine uu_iand dX12_handleAt_53 ?_
  have hr := Option.some.inj h
  subst hr
  exact uu_iret rfl dX12_handleAt_54
def fn_X12_handleAt (x1 : Int32) (x2 : Int32) (s : uS) : Option Int32 := if (80 : Int32) ≤ x1 then ((lget s 1134 (((x1 - x1 / 80 * 80) * 125) + (x2 / 8))).bind fun v2 => fb_X12_handleAt_34 x2 v2 s) else ((lget s 1133 (((x1 - x1 / 80 * 80) * 125) + (x2 / 8))).bind fun v4 => fb_X12_handleAt_34 x2 v4 s)
set_option maxRecDepth 100000 in
set_option maxHeartbeats 4000000 in
theorem xc_X12_handleAt {l : Launch} {D : va_G} {A : Nat → ClassId} {B : Nat} {Z : State → Heap → Prop} {vF : Value} (uk : uK B Z vF) {x1 : Int32} {x2 : Int32} {s : uS} {r : Int32}  (h : fn_X12_handleAt x1 x2 s = some r) : CU l D A B Z 0 mX12_handleAt s [.ref (B + 1079), .int x1, .int x2] (s, some (.int r)) := by
  unfold fn_X12_handleAt at h
  refine cu_of rfl uk.1.1 (Nat.le_of_ble_eq_true rfl) ?_
  show GU _ _ _ _ _ _ _ _ _ 0 [(0, .ref (B + 1079)), (1, .int x1), (2, .int x2)] []
  refine uu_iload_n dX12_handleAt_0 rfl (List.mem_of_getElem? (i := 1) rfl) ?_
  refine uu_bipush (v := 80) dX12_handleAt_1 (by decide) ?_
  refine uu_irem dX12_handleAt_3 (by decide) ?_
  refine uu_bipush (v := 125) dX12_handleAt_4 (by decide) ?_
  refine uu_imul dX12_handleAt_6 ?_
  refine uu_iload_n dX12_handleAt_7 rfl (List.mem_of_getElem? (i := 2) rfl) ?_
  refine uu_bipush (v := 8) dX12_handleAt_8 (by decide) ?_
  refine uu_idiv dX12_handleAt_10 (by decide) ?_
  refine uu_iadd dX12_handleAt_11 ?_
  refine uu_istore_n dX12_handleAt_12 rfl (by decide) rfl ?_
  refine uu_iload_n dX12_handleAt_13 rfl (List.mem_of_getElem? (i := 2) rfl) ?_
  refine uu_bipush (v := 80) dX12_handleAt_14 (by decide) ?_
  refine uu_icmp_ge (tgt := 28) dX12_handleAt_16 (by decide) (fun c1 => ?_) (fun c1 => ?_)
  · replace h := uu_pos c1 h
    refine uu_aload_n dX12_handleAt_28 rfl (List.mem_of_getElem? (i := 1) rfl) ?_
    refine uu_geta (ci := 12) (N := 153) fX12_587 (by decide) so_1079.is (by decide) (c := 1134) (by decide) dX12_handleAt_29 ?_
    refine uu_iload_n dX12_handleAt_32 rfl (List.mem_of_getElem? (i := 0) rfl) ?_
    obtain ⟨v2, e3, h⟩ := uu_ob h
    refine uu_lald e3 dX12_handleAt_33 ?_
    refine uu_lv [3] (lv' := [(2, .int x2)]) rfl ?_
    exact xb_X12_handleAt_34 uk  h
  · replace h := uu_neg c1 h
    refine uu_aload_n dX12_handleAt_19 rfl (List.mem_of_getElem? (i := 1) rfl) ?_
    refine uu_geta (ci := 12) (N := 153) fX12_584 (by decide) so_1079.is (by decide) (c := 1133) (by decide) dX12_handleAt_20 ?_
    refine uu_iload_n dX12_handleAt_23 rfl (List.mem_of_getElem? (i := 0) rfl) ?_
    obtain ⟨v4, e5, h⟩ := uu_ob h
    refine uu_lald e5 dX12_handleAt_24 ?_
    refine uu_goto (tgt := 34) dX12_handleAt_25 (by decide) ?_
    refine uu_lv [3] (lv' := [(2, .int x2)]) rfl ?_
    exact xb_X12_handleAt_34 uk  h
abbrev mX12_setHandle : hM := (yX12_setHandle, cX12_setHandle, 10, none)
theorem dX12_setHandle_49 : decode cX12_setHandle 49 = .ok (.lstore 6, 2) := by decide +kernel
theorem dX12_setHandle_51 : decode cX12_setHandle 51 = .ok (.lload 6, 2) := by decide +kernel
theorem dX12_setHandle_53 : decode cX12_setHandle 53 = .ok (.ldc2_w 559, 3) := by decide +kernel
theorem dX12_setHandle_56 : decode cX12_setHandle 56 = .ok (.iload 5, 2) := by decide +kernel
theorem dX12_setHandle_58 : decode cX12_setHandle 58 = .ok (.lshl, 1) := by decide +kernel
theorem dX12_setHandle_59 : decode cX12_setHandle 59 = .ok (.ldc2_w 561, 3) := by decide +kernel
theorem dX12_setHandle_62 : decode cX12_setHandle 62 = .ok (.lxor, 1) := by decide +kernel
theorem dX12_setHandle_63 : decode cX12_setHandle 63 = .ok (.land, 1) := by decide +kernel
theorem dX12_setHandle_64 : decode cX12_setHandle 64 = .ok (.iload_n 3, 1) := by decide +kernel
theorem dX12_setHandle_65 : decode cX12_setHandle 65 = .ok (.sipush 255, 3) := by decide +kernel
theorem dX12_setHandle_68 : decode cX12_setHandle 68 = .ok (.iand, 1) := by decide +kernel
theorem dX12_setHandle_69 : decode cX12_setHandle 69 = .ok (.i2l, 1) := by decide +kernel
theorem dX12_setHandle_70 : decode cX12_setHandle 70 = .ok (.iload 5, 2) := by decide +kernel
theorem dX12_setHandle_72 : decode cX12_setHandle 72 = .ok (.lshl, 1) := by decide +kernel
theorem dX12_setHandle_73 : decode cX12_setHandle 73 = .ok (.lor, 1) := by decide +kernel
theorem dX12_setHandle_74 : decode cX12_setHandle 74 = .ok (.lstore 8, 2) := by decide +kernel
theorem dX12_setHandle_76 : decode cX12_setHandle 76 = .ok (.iload_n 1, 1) := by decide +kernel
theorem dX12_setHandle_77 : decode cX12_setHandle 77 = .ok (.bipush 80, 2) := by decide +kernel
theorem dX12_setHandle_79 : decode cX12_setHandle 79 = .ok (.if_icmp .ge 15, 3) := by decide +kernel
theorem dX12_setHandle_94 : decode cX12_setHandle 94 = .ok (.aload_n 0, 1) := by decide +kernel
theorem dX12_setHandle_95 : decode cX12_setHandle 95 = .ok (.getfield 587, 3) := by decide +kernel
theorem dX12_setHandle_98 : decode cX12_setHandle 98 = .ok (.iload 4, 2) := by decide +kernel
theorem dX12_setHandle_100 : decode cX12_setHandle 100 = .ok (.lload 8, 2) := by decide +kernel
theorem dX12_setHandle_102 : decode cX12_setHandle 102 = .ok (.lastore, 1) := by decide +kernel
theorem dX12_setHandle_103 : decode cX12_setHandle 103 = .ok (.return_, 1) := by decide +kernel
theorem dX12_setHandle_82 : decode cX12_setHandle 82 = .ok (.aload_n 0, 1) := by decide +kernel
theorem dX12_setHandle_83 : decode cX12_setHandle 83 = .ok (.getfield 584, 3) := by decide +kernel
theorem dX12_setHandle_86 : decode cX12_setHandle 86 = .ok (.iload 4, 2) := by decide +kernel
theorem dX12_setHandle_88 : decode cX12_setHandle 88 = .ok (.lload 8, 2) := by decide +kernel
theorem dX12_setHandle_90 : decode cX12_setHandle 90 = .ok (.lastore, 1) := by decide +kernel
theorem dX12_setHandle_91 : decode cX12_setHandle 91 = .ok (.goto 12, 3) := by decide +kernel
theorem dX12_setHandle_0 : decode cX12_setHandle 0 = .ok (.iload_n 1, 1) := by decide +kernel
theorem dX12_setHandle_1 : decode cX12_setHandle 1 = .ok (.bipush 80, 2) := by decide +kernel
theorem dX12_setHandle_3 : decode cX12_setHandle 3 = .ok (.irem, 1) := by decide +kernel
theorem dX12_setHandle_4 : decode cX12_setHandle 4 = .ok (.bipush 125, 2) := by decide +kernel
theorem dX12_setHandle_6 : decode cX12_setHandle 6 = .ok (.imul, 1) := by decide +kernel
theorem dX12_setHandle_7 : decode cX12_setHandle 7 = .ok (.iload_n 2, 1) := by decide +kernel
theorem dX12_setHandle_8 : decode cX12_setHandle 8 = .ok (.bipush 8, 2) := by decide +kernel
theorem dX12_setHandle_10 : decode cX12_setHandle 10 = .ok (.idiv, 1) := by decide +kernel
theorem dX12_setHandle_11 : decode cX12_setHandle 11 = .ok (.iadd, 1) := by decide +kernel
theorem dX12_setHandle_12 : decode cX12_setHandle 12 = .ok (.istore 4, 2) := by decide +kernel
theorem dX12_setHandle_14 : decode cX12_setHandle 14 = .ok (.bipush 56, 2) := by decide +kernel
theorem dX12_setHandle_16 : decode cX12_setHandle 16 = .ok (.bipush 8, 2) := by decide +kernel
theorem dX12_setHandle_18 : decode cX12_setHandle 18 = .ok (.iload_n 2, 1) := by decide +kernel
theorem dX12_setHandle_19 : decode cX12_setHandle 19 = .ok (.bipush 8, 2) := by decide +kernel
theorem dX12_setHandle_21 : decode cX12_setHandle 21 = .ok (.irem, 1) := by decide +kernel
theorem dX12_setHandle_22 : decode cX12_setHandle 22 = .ok (.imul, 1) := by decide +kernel
theorem dX12_setHandle_23 : decode cX12_setHandle 23 = .ok (.isub, 1) := by decide +kernel
theorem dX12_setHandle_24 : decode cX12_setHandle 24 = .ok (.istore 5, 2) := by decide +kernel
theorem dX12_setHandle_26 : decode cX12_setHandle 26 = .ok (.iload_n 1, 1) := by decide +kernel
theorem dX12_setHandle_27 : decode cX12_setHandle 27 = .ok (.bipush 80, 2) := by decide +kernel
theorem dX12_setHandle_29 : decode cX12_setHandle 29 = .ok (.if_icmp .ge 13, 3) := by decide +kernel
theorem dX12_setHandle_42 : decode cX12_setHandle 42 = .ok (.aload_n 0, 1) := by decide +kernel
theorem dX12_setHandle_43 : decode cX12_setHandle 43 = .ok (.getfield 587, 3) := by decide +kernel
theorem dX12_setHandle_46 : decode cX12_setHandle 46 = .ok (.iload 4, 2) := by decide +kernel
theorem dX12_setHandle_48 : decode cX12_setHandle 48 = .ok (.laload, 1) := by decide +kernel
theorem dX12_setHandle_32 : decode cX12_setHandle 32 = .ok (.aload_n 0, 1) := by decide +kernel
theorem dX12_setHandle_33 : decode cX12_setHandle 33 = .ok (.getfield 584, 3) := by decide +kernel
theorem dX12_setHandle_36 : decode cX12_setHandle 36 = .ok (.iload 4, 2) := by decide +kernel
theorem dX12_setHandle_38 : decode cX12_setHandle 38 = .ok (.laload, 1) := by decide +kernel
theorem dX12_setHandle_39 : decode cX12_setHandle 39 = .ok (.goto 10, 3) := by decide +kernel
def fb_X12_setHandle_49  (x1 : Int32) (x3 : Int32) (x4 : Int32) (x5 : Int32) (ls0 : Int64) (s : uS) : Option uS := if (80 : Int32) ≤ x1 then ((lput s 1134 x4 ((ls0 &&& (((255 : Int64) <<< (x5.toInt64 &&& 63)) ^^^ (-1))) ||| (((x3 &&& 255).toInt64) <<< (x5.toInt64 &&& 63)))).bind fun s2 => some s2) else ((lput s 1133 x4 ((ls0 &&& (((255 : Int64) <<< (x5.toInt64 &&& 63)) ^^^ (-1))) ||| (((x3 &&& 255).toInt64) <<< (x5.toInt64 &&& 63)))).bind fun s4 => some s4)
set_option maxRecDepth 100000 in
set_option maxHeartbeats 4000000 in
theorem xb_X12_setHandle_49 {l : Launch} {D : va_G} {A : Nat → ClassId} {B : Nat} {Z : State → Heap → Prop} {vF : Value} (uk : uK B Z vF)   {x1 : Int32} {x3 : Int32} {x4 : Int32} {x5 : Int32} {ls0 : Int64} {s : uS} {r : uS}  (h : fb_X12_setHandle_49  x1 x3 x4 x5 ls0 s = some r) : GU l D A B Z mX12_setHandle 0 (r, none) s 49 [(0, .ref (B + 1079)), (1, .int x1), (3, .int x3), (4, .int x4), (5, .int x5)] [.long ls0] := by
  unfold fb_X12_setHandle_49 at h
  refine uu_lstore dX12_setHandle_49 (by decide) rfl ?_
  refine uu_lload dX12_setHandle_51 (List.mem_of_getElem? (i := 0) rfl) ?_
  refine uu_ldc2 (v := 255) cX12_559 dX12_setHandle_53 ?_
  refine uu_iload dX12_setHandle_56 (List.mem_of_getElem? (i := 5) rfl) ?_
  refine uu_lshl dX12_setHandle_58 rfl ?_
  refine uu_ldc2 (v := -1) cX12_561 dX12_setHandle_59 ?_
  refine uu_lxor dX12_setHandle_62 ?_
  refine uu_land dX12_setHandle_63 ?_
  refine uu_iload_n dX12_setHandle_64 rfl (List.mem_of_getElem? (i := 3) rfl) ?_
  refine uu_sipush (v := 255) dX12_setHandle_65 (by decide) ?_
  refine uu_iand dX12_setHandle_68 ?_
  refine uu_i2l dX12_setHandle_69 rfl ?_
  refine uu_iload dX12_setHandle_70 (List.mem_of_getElem? (i := 5) rfl) ?_
  refine uu_lshl dX12_setHandle_72 rfl ?_
  refine uu_lor dX12_setHandle_73 ?_
  refine uu_lstore dX12_setHandle_74 (by decide) rfl ?_
  refine uu_iload_n dX12_setHandle_76 rfl (List.mem_of_getElem? (i := 3) rfl) ?_
  refine uu_bipush (v := 80) dX12_setHandle_77 (by decide) ?_
  refine uu_icmp_ge (tgt := 94) dX12_setHandle_79 (by decide) (fun c1 => ?_) (fun c1 => ?_)
  · replace h := uu_pos c1 h
    refine uu_aload_n dX12_setHandle_94 rfl (List.mem_of_getElem? (i := 2) rfl) ?_
    refine uu_geta (ci := 12) (N := 153) fX12_587 (by decide) so_1079.is (by decide) (c := 1134) (by decide) dX12_setHandle_95 ?_
    refine uu_iload dX12_setHandle_98 (List.mem_of_getElem? (i := 5) rfl) ?_
    refine uu_lload dX12_setHandle_100 (List.mem_of_getElem? (i := 0) rfl) ?_
    obtain ⟨s2, e3, h⟩ := uu_ob h
    refine uu_last e3 dX12_setHandle_102 ?_
    have hr := Option.some.inj h
    subst hr
    exact uu_vret rfl dX12_setHandle_103
  · replace h := uu_neg c1 h
    refine uu_aload_n dX12_setHandle_82 rfl (List.mem_of_getElem? (i := 2) rfl) ?_
    refine uu_geta (ci := 12) (N := 153) fX12_584 (by decide) so_1079.is (by decide) (c := 1133) (by decide) dX12_setHandle_83 ?_
    refine uu_iload dX12_setHandle_86 (List.mem_of_getElem? (i := 5) rfl) ?_
    refine uu_lload dX12_setHandle_88 (List.mem_of_getElem? (i := 0) rfl) ?_
    obtain ⟨s4, e5, h⟩ := uu_ob h
    refine uu_last e5 dX12_setHandle_90 ?_
    refine uu_goto (tgt := 103) dX12_setHandle_91 (by decide) ?_
    have hr := Option.some.inj h
    subst hr
    exact uu_vret rfl dX12_setHandle_103
def fn_X12_setHandle (x1 : Int32) (x2 : Int32) (x3 : Int32) (s : uS) : Option uS := if (80 : Int32) ≤ x1 then ((lget s 1134 (((x1 - x1 / 80 * 80) * 125) + (x2 / 8))).bind fun v2 => fb_X12_setHandle_49 x1 x3 (((x1 - x1 / 80 * 80) * 125) + (x2 / 8)) ((56 : Int32) - ((8 : Int32) * (x2 - x2 / 8 * 8))) v2 s) else ((lget s 1133 (((x1 - x1 / 80 * 80) * 125) + (x2 / 8))).bind fun v4 => fb_X12_setHandle_49 x1 x3 (((x1 - x1 / 80 * 80) * 125) + (x2 / 8)) ((56 : Int32) - ((8 : Int32) * (x2 - x2 / 8 * 8))) v4 s)
set_option maxRecDepth 100000 in
set_option maxHeartbeats 4000000 in
theorem xc_X12_setHandle {l : Launch} {D : va_G} {A : Nat → ClassId} {B : Nat} {Z : State → Heap → Prop} {vF : Value} (uk : uK B Z vF) {x1 : Int32} {x2 : Int32} {x3 : Int32} {s : uS} {r : uS}  (h : fn_X12_setHandle x1 x2 x3 s = some r) : CU l D A B Z 0 mX12_setHandle s [.ref (B + 1079), .int x1, .int x2, .int x3] (r, none) := by
  unfold fn_X12_setHandle at h
  refine cu_of rfl uk.1.1 (Nat.le_of_ble_eq_true rfl) ?_
  show GU _ _ _ _ _ _ _ _ _ 0 [(0, .ref (B + 1079)), (1, .int x1), (2, .int x2), (3, .int x3)] []
  refine uu_iload_n dX12_setHandle_0 rfl (List.mem_of_getElem? (i := 1) rfl) ?_
  refine uu_bipush (v := 80) dX12_setHandle_1 (by decide) ?_
  refine uu_irem dX12_setHandle_3 (by decide) ?_
  refine uu_bipush (v := 125) dX12_setHandle_4 (by decide) ?_
  refine uu_imul dX12_setHandle_6 ?_
  refine uu_iload_n dX12_setHandle_7 rfl (List.mem_of_getElem? (i := 2) rfl) ?_
  refine uu_bipush (v := 8) dX12_setHandle_8 (by decide) ?_
  refine uu_idiv dX12_setHandle_10 (by decide) ?_
  refine uu_iadd dX12_setHandle_11 ?_
  refine uu_istore dX12_setHandle_12 (by decide) rfl ?_
  refine uu_bipush (v := 56) dX12_setHandle_14 (by decide) ?_
  refine uu_bipush (v := 8) dX12_setHandle_16 (by decide) ?_
  refine uu_iload_n dX12_setHandle_18 rfl (List.mem_of_getElem? (i := 3) rfl) ?_
  refine uu_bipush (v := 8) dX12_setHandle_19 (by decide) ?_
  refine uu_irem dX12_setHandle_21 (by decide) ?_
  refine uu_imul dX12_setHandle_22 ?_
  refine uu_isub dX12_setHandle_23 ?_
  refine uu_istore dX12_setHandle_24 (by decide) rfl ?_
  refine uu_iload_n dX12_setHandle_26 rfl (List.mem_of_getElem? (i := 3) rfl) ?_
  refine uu_bipush (v := 80) dX12_setHandle_27 (by decide) ?_
  refine uu_icmp_ge (tgt := 42) dX12_setHandle_29 (by decide) (fun c1 => ?_) (fun c1 => ?_)
  · replace h := uu_pos c1 h
    refine uu_aload_n dX12_setHandle_42 rfl (List.mem_of_getElem? (i := 2) rfl) ?_
    refine uu_geta (ci := 12) (N := 153) fX12_587 (by decide) so_1079.is (by decide) (c := 1134) (by decide) dX12_setHandle_43 ?_
    refine uu_iload dX12_setHandle_46 (List.mem_of_getElem? (i := 1) rfl) ?_
    obtain ⟨v2, e3, h⟩ := uu_ob h
    refine uu_lald e3 dX12_setHandle_48 ?_
    refine uu_lv [2, 3, 5, 1, 0] (lv' := [(0, .ref (B + 1079)), (1, .int x1), (3, .int x3), (4, .int (((x1 - x1 / 80 * 80) * 125) + (x2 / 8))), (5, .int ((56 : Int32) - ((8 : Int32) * (x2 - x2 / 8 * 8))))]) rfl ?_
    exact xb_X12_setHandle_49 uk  h
  · replace h := uu_neg c1 h
    refine uu_aload_n dX12_setHandle_32 rfl (List.mem_of_getElem? (i := 2) rfl) ?_
    refine uu_geta (ci := 12) (N := 153) fX12_584 (by decide) so_1079.is (by decide) (c := 1133) (by decide) dX12_setHandle_33 ?_
    refine uu_iload dX12_setHandle_36 (List.mem_of_getElem? (i := 1) rfl) ?_
    obtain ⟨v4, e5, h⟩ := uu_ob h
    refine uu_lald e5 dX12_setHandle_38 ?_
    refine uu_goto (tgt := 49) dX12_setHandle_39 (by decide) ?_
    refine uu_lv [2, 3, 5, 1, 0] (lv' := [(0, .ref (B + 1079)), (1, .int x1), (3, .int x3), (4, .int (((x1 - x1 / 80 * 80) * 125) + (x2 / 8))), (5, .int ((56 : Int32) - ((8 : Int32) * (x2 - x2 / 8 * 8))))]) rfl ?_
    exact xb_X12_setHandle_49 uk  h
abbrev mX12_flagOf : hM := (yX12_flagOf, cX12_flagOf, 1, (some (.int)))
theorem dX12_flagOf_0 : decode cX12_flagOf 0 = .ok (.aload_n 0, 1) := by decide +kernel
theorem dX12_flagOf_1 : decode cX12_flagOf 1 = .ok (.ldc_w 590, 3) := by decide +kernel
theorem dX12_flagOf_4 : decode cX12_flagOf 4 = .ok (.invokevirtual 158, 3) := by decide +kernel
theorem dX12_flagOf_7 : decode cX12_flagOf 7 = .ok (.ifCond .eq 7, 3) := by decide +kernel
theorem dX12_flagOf_14 : decode cX12_flagOf 14 = .ok (.aload_n 0, 1) := by decide +kernel
theorem dX12_flagOf_15 : decode cX12_flagOf 15 = .ok (.ldc_w 592, 3) := by decide +kernel
theorem dX12_flagOf_18 : decode cX12_flagOf 18 = .ok (.invokevirtual 158, 3) := by decide +kernel
theorem dX12_flagOf_21 : decode cX12_flagOf 21 = .ok (.ifCond .eq 7, 3) := by decide +kernel
theorem dX12_flagOf_28 : decode cX12_flagOf 28 = .ok (.aload_n 0, 1) := by decide +kernel
theorem dX12_flagOf_29 : decode cX12_flagOf 29 = .ok (.ldc_w 594, 3) := by decide +kernel
theorem dX12_flagOf_32 : decode cX12_flagOf 32 = .ok (.invokevirtual 158, 3) := by decide +kernel
theorem dX12_flagOf_35 : decode cX12_flagOf 35 = .ok (.ifCond .eq 7, 3) := by decide +kernel
theorem dX12_flagOf_42 : decode cX12_flagOf 42 = .ok (.aload_n 0, 1) := by decide +kernel
theorem dX12_flagOf_43 : decode cX12_flagOf 43 = .ok (.ldc_w 596, 3) := by decide +kernel
theorem dX12_flagOf_46 : decode cX12_flagOf 46 = .ok (.invokevirtual 158, 3) := by decide +kernel
theorem dX12_flagOf_49 : decode cX12_flagOf 49 = .ok (.ifCond .eq 8, 3) := by decide +kernel
theorem dX12_flagOf_57 : decode cX12_flagOf 57 = .ok (.aload_n 0, 1) := by decide +kernel
theorem dX12_flagOf_58 : decode cX12_flagOf 58 = .ok (.ldc_w 598, 3) := by decide +kernel
theorem dX12_flagOf_61 : decode cX12_flagOf 61 = .ok (.invokevirtual 158, 3) := by decide +kernel
theorem dX12_flagOf_64 : decode cX12_flagOf 64 = .ok (.ifCond .eq 8, 3) := by decide +kernel
theorem dX12_flagOf_72 : decode cX12_flagOf 72 = .ok (.iconst 0, 1) := by decide +kernel
theorem dX12_flagOf_73 : decode cX12_flagOf 73 = .ok (.ireturn, 1) := by decide +kernel
theorem dX12_flagOf_67 : decode cX12_flagOf 67 = .ok (.bipush 16, 2) := by decide +kernel
theorem dX12_flagOf_69 : decode cX12_flagOf 69 = .ok (.goto 4, 3) := by decide +kernel
theorem dX12_flagOf_52 : decode cX12_flagOf 52 = .ok (.bipush 8, 2) := by decide +kernel
theorem dX12_flagOf_54 : decode cX12_flagOf 54 = .ok (.goto 19, 3) := by decide +kernel
theorem dX12_flagOf_38 : decode cX12_flagOf 38 = .ok (.iconst 4, 1) := by decide +kernel
theorem dX12_flagOf_39 : decode cX12_flagOf 39 = .ok (.goto 34, 3) := by decide +kernel
theorem dX12_flagOf_24 : decode cX12_flagOf 24 = .ok (.iconst 2, 1) := by decide +kernel
theorem dX12_flagOf_25 : decode cX12_flagOf 25 = .ok (.goto 48, 3) := by decide +kernel
theorem dX12_flagOf_10 : decode cX12_flagOf 10 = .ok (.iconst 1, 1) := by decide +kernel
theorem dX12_flagOf_11 : decode cX12_flagOf 11 = .ok (.goto 62, 3) := by decide +kernel
def fn_X12_flagOf  (s : uS) : Option (uS × Int32) := (fn_X12_oneIs kW_130 s).bind fun r2 => if r2.2 = true then (some (r2.1, (1 : Int32))) else ((fn_X12_oneIs kW_131 r2.1).bind fun r6 => if r6.2 = true then (some (r6.1, (2 : Int32))) else ((fn_X12_oneIs kW_132 r6.1).bind fun r10 => if r10.2 = true then (some (r10.1, (4 : Int32))) else ((fn_X12_oneIs kW_133 r10.1).bind fun r14 => if r14.2 = true then (some (r14.1, (8 : Int32))) else ((fn_X12_oneIs kW_134 r14.1).bind fun r18 => if r18.2 = true then (some (r18.1, (16 : Int32))) else (some (r18.1, (0 : Int32)))))))
set_option maxRecDepth 100000 in
set_option maxHeartbeats 4000000 in
theorem xc_X12_flagOf {l : Launch} {D : va_G} {A : Nat → ClassId} {B : Nat} {Z : State → Heap → Prop} {vF : Value} (uk : uK B Z vF)  {s : uS} {r : (uS × Int32)}  (h : fn_X12_flagOf  s = some r) : CU l D A B Z 6 mX12_flagOf s [.ref (B + 1079)] (r.1, some (.int r.2)) := by
  unfold fn_X12_flagOf at h
  refine cu_of rfl uk.1.1 (Nat.le_of_ble_eq_true rfl) ?_
  show GU _ _ _ _ _ _ _ _ _ 0 [(0, .ref (B + 1079))] []
  refine uu_aload_n dX12_flagOf_0 rfl (List.mem_of_getElem? (i := 0) rfl) ?_
  obtain ⟨cq1, cp1, cv1, cw1⟩ := uk.2.1 130 _ rfl
  refine uu_ldcwS cv1 dX12_flagOf_1 ?_
  obtain ⟨r2, e3, h⟩ := uu_ob h
  refine uu_cv (d1 := 5) (k := 1079) (ci := 12) (T := TX12) (N := 153) (As := [.ref cq1]) (st := []) (st' := [.int (bI r2.2)]) (xc_X12_oneIs uk cw1 e3) so_1079.is (by decide) rfl kX12_oneIs lX12_158 sX12_oneIs (by decide) (Nat.le_of_ble_eq_true rfl) dX12_flagOf_4 rfl ?_
  refine uu_ifb_eq (tgt := 14) dX12_flagOf_7 (by decide) (fun c4 => ?_) (fun c4 => ?_)
  · replace h := uu_neg c4 h
    refine uu_aload_n dX12_flagOf_14 rfl (List.mem_of_getElem? (i := 0) rfl) ?_
    obtain ⟨cq5, cp5, cv5, cw5⟩ := uk.2.1 131 _ rfl
    refine uu_ldcwS cv5 dX12_flagOf_15 ?_
    obtain ⟨r6, e7, h⟩ := uu_ob h
    refine uu_cv (d1 := 5) (k := 1079) (ci := 12) (T := TX12) (N := 153) (As := [.ref cq5]) (st := []) (st' := [.int (bI r6.2)]) (xc_X12_oneIs uk cw5 e7) so_1079.is (by decide) rfl kX12_oneIs lX12_158 sX12_oneIs (by decide) (Nat.le_of_ble_eq_true rfl) dX12_flagOf_18 rfl ?_
    refine uu_ifb_eq (tgt := 28) dX12_flagOf_21 (by decide) (fun c8 => ?_) (fun c8 => ?_)
    · replace h := uu_neg c8 h
      refine uu_aload_n dX12_flagOf_28 rfl (List.mem_of_getElem? (i := 0) rfl) ?_
      obtain ⟨cq9, cp9, cv9, cw9⟩ := uk.2.1 132 _ rfl
      refine uu_ldcwS cv9 dX12_flagOf_29 ?_
      obtain ⟨r10, e11, h⟩ := uu_ob h
      refine uu_cv (d1 := 5) (k := 1079) (ci := 12) (T := TX12) (N := 153) (As := [.ref cq9]) (st := []) (st' := [.int (bI r10.2)]) (xc_X12_oneIs uk cw9 e11) so_1079.is (by decide) rfl kX12_oneIs lX12_158 sX12_oneIs (by decide) (Nat.le_of_ble_eq_true rfl) dX12_flagOf_32 rfl ?_
      refine uu_ifb_eq (tgt := 42) dX12_flagOf_35 (by decide) (fun c12 => ?_) (fun c12 => ?_)
      · replace h := uu_neg c12 h
        refine uu_aload_n dX12_flagOf_42 rfl (List.mem_of_getElem? (i := 0) rfl) ?_
        obtain ⟨cq13, cp13, cv13, cw13⟩ := uk.2.1 133 _ rfl
        refine uu_ldcwS cv13 dX12_flagOf_43 ?_
        obtain ⟨r14, e15, h⟩ := uu_ob h
        refine uu_cv (d1 := 5) (k := 1079) (ci := 12) (T := TX12) (N := 153) (As := [.ref cq13]) (st := []) (st' := [.int (bI r14.2)]) (xc_X12_oneIs uk cw13 e15) so_1079.is (by decide) rfl kX12_oneIs lX12_158 sX12_oneIs (by decide) (Nat.le_of_ble_eq_true rfl) dX12_flagOf_46 rfl ?_
        refine uu_ifb_eq (tgt := 57) dX12_flagOf_49 (by decide) (fun c16 => ?_) (fun c16 => ?_)
        · replace h := uu_neg c16 h
          refine uu_aload_n dX12_flagOf_57 rfl (List.mem_of_getElem? (i := 0) rfl) ?_
          obtain ⟨cq17, cp17, cv17, cw17⟩ := uk.2.1 134 _ rfl
          refine uu_ldcwS cv17 dX12_flagOf_58 ?_
          obtain ⟨r18, e19, h⟩ := uu_ob h
          refine uu_cv (d1 := 5) (k := 1079) (ci := 12) (T := TX12) (N := 153) (As := [.ref cq17]) (st := []) (st' := [.int (bI r18.2)]) (xc_X12_oneIs uk cw17 e19) so_1079.is (by decide) rfl kX12_oneIs lX12_158 sX12_oneIs (by decide) (Nat.le_of_ble_eq_true rfl) dX12_flagOf_61 rfl ?_
          refine uu_ifb_eq (tgt := 72) dX12_flagOf_64 (by decide) (fun c20 => ?_) (fun c20 => ?_)
          · replace h := uu_neg c20 h
            refine uu_iconst (v := 0) dX12_flagOf_72 (by decide) ?_
            have hr := Option.some.inj h
            subst hr
            exact uu_iret rfl dX12_flagOf_73
          · replace h := uu_pos c20 h
            refine uu_bipush (v := 16) dX12_flagOf_67 (by decide) ?_
            refine uu_goto (tgt := 73) dX12_flagOf_69 (by decide) ?_
            have hr := Option.some.inj h
            subst hr
            exact uu_iret rfl dX12_flagOf_73
        · replace h := uu_pos c16 h
          refine uu_bipush (v := 8) dX12_flagOf_52 (by decide) ?_
          refine uu_goto (tgt := 73) dX12_flagOf_54 (by decide) ?_
          have hr := Option.some.inj h
          subst hr
          exact uu_iret rfl dX12_flagOf_73
      · replace h := uu_pos c12 h
        refine uu_iconst (v := 4) dX12_flagOf_38 (by decide) ?_
        refine uu_goto (tgt := 73) dX12_flagOf_39 (by decide) ?_
        have hr := Option.some.inj h
        subst hr
        exact uu_iret rfl dX12_flagOf_73
    · replace h := uu_pos c8 h
      refine uu_iconst (v := 2) dX12_flagOf_24 (by decide) ?_
      refine uu_goto (tgt := 73) dX12_flagOf_25 (by decide) ?_
      have hr := Option.some.inj h
      subst hr
      exact uu_iret rfl dX12_flagOf_73
  · replace h := uu_pos c4 h
    refine uu_iconst (v := 1) dX12_flagOf_10 (by decide) ?_
    refine uu_goto (tgt := 73) dX12_flagOf_11 (by decide) ?_
    have hr := Option.some.inj h
    subst hr
    exact uu_iret rfl dX12_flagOf_73
abbrev mX12_flagsOf : hM := (yX12_flagsOf, cX12_flagsOf, 5, (some (.int)))
theorem dX12_flagsOf_5 : decode cX12_flagsOf 5 = .ok (.iload 4, 2) := by decide +kernel
theorem dX12_flagsOf_7 : decode cX12_flagsOf 7 = .ok (.iload_n 2, 1) := by decide +kernel
theorem dX12_flagsOf_8 : decode cX12_flagsOf 8 = .ok (.if_icmp .ge 24, 3) := by decide +kernel
theorem dX12_flagsOf_32 : decode cX12_flagsOf 32 = .ok (.iload_n 3, 1) := by decide +kernel
theorem dX12_flagsOf_33 : decode cX12_flagsOf 33 = .ok (.ireturn, 1) := by decide +kernel
theorem dX12_flagsOf_11 : decode cX12_flagsOf 11 = .ok (.aload_n 0, 1) := by decide +kernel
theorem dX12_flagsOf_12 : decode cX12_flagsOf 12 = .ok (.iload_n 1, 1) := by decide +kernel
theorem dX12_flagsOf_13 : decode cX12_flagsOf 13 = .ok (.iload 4, 2) := by decide +kernel
theorem dX12_flagsOf_15 : decode cX12_flagsOf 15 = .ok (.iadd, 1) := by decide +kernel
theorem dX12_flagsOf_16 : decode cX12_flagsOf 16 = .ok (.invokevirtual 466, 3) := by decide +kernel
theorem dX12_flagsOf_19 : decode cX12_flagsOf 19 = .ok (.iload_n 3, 1) := by decide +kernel
theorem dX12_flagsOf_20 : decode cX12_flagsOf 20 = .ok (.aload_n 0, 1) := by decide +kernel
theorem kX12_flagOf : h_ml mX12_flagOf 0 := ⟨h_t9 229 rfl rfl, h_t1 16 rfl rfl, ⟨by decide, by decide, by decide +kernel⟩, by decide⟩
theorem lX12_600 : Cond.methodLink RX12 600 mX12_flagOf.1 ∈ lw_g := h_t9 226 rfl rfl
theorem sX12_flagOf : Cond.instanceMethod mX12_flagOf.1 ∈ lw_g ∧ Cond.selects mX12_flagOf.1.cls mX12_flagOf.1 mX12_flagOf.1 ∈ lw_g := ⟨h_t9 228 rfl rfl, h_ins 196 rfl⟩
theorem dX12_flagsOf_21 : decode cX12_flagsOf 21 = .ok (.invokevirtual 600, 3) := by decide +kernel
theorem dX12_flagsOf_24 : decode cX12_flagsOf 24 = .ok (.ior, 1) := by decide +kernel
theorem dX12_flagsOf_25 : decode cX12_flagsOf 25 = .ok (.istore_n 3, 1) := by decide +kernel
theorem dX12_flagsOf_26 : decode cX12_flagsOf 26 = .ok (.iinc 4 1, 3) := by decide +kernel
theorem dX12_flagsOf_29 : decode cX12_flagsOf 29 = .ok (.goto (-24), 3) := by decide +kernel
theorem dX12_flagsOf_0 : decode cX12_flagsOf 0 = .ok (.iconst 0, 1) := by decide +kernel
theorem dX12_flagsOf_1 : decode cX12_flagsOf 1 = .ok (.istore_n 3, 1) := by decide +kernel
theorem dX12_flagsOf_2 : decode cX12_flagsOf 2 = .ok (.iconst 0, 1) := by decide +kernel
theorem dX12_flagsOf_3 : decode cX12_flagsOf 3 = .ok (.istore 4, 2) := by decide +kernel
def fb_X12_flagsOf_5 (K5 : Int32 → Int32 → Int32 → Int32 → uS → Option (uS × Int32)) (x1 : Int32) (x2 : Int32) (x3 : Int32) (x4 : Int32) (s : uS) : Option (uS × Int32) := if x2 ≤ x4 then (some (s, x3)) else ((fn_X12_oneString (x1 + x4) s).bind fun s2 => (fn_X12_flagOf s2).bind fun r4 => K5 x1 x2 (x3 ||| r4.2) (x4 + 1) r4.1)
set_option maxRecDepth 100000 in
set_option maxHeartbeats 4000000 in
theorem xb_X12_flagsOf_5 {l : Launch} {D : va_G} {A : Nat → ClassId} {B : Nat} {Z : State → Heap → Prop} {vF : Value} (uk : uK B Z vF) {K5 : Int32 → Int32 → Int32 → Int32 → uS → Option (uS × Int32)} (hK5 : ∀ (x1 : Int32) (x2 : Int32) (x3 : Int32) (x4 : Int32)  (s : uS) (r : (uS × Int32)), K5 x1 x2 x3 x4 s = some r → GU l D A B Z mX12_flagsOf 7 (r.1, some (.int r.2)) s 5 [(0, .ref (B + 1079)), (1, .int x1), (2, .int x2), (3, .int x3), (4, .int x4)] []) {x1 : Int32} {x2 : Int32} {x3 : Int32} {x4 : Int32} {s : uS} {r : (uS × Int32)}  (h : fb_X12_flagsOf_5 K5 x1 x2 x3 x4 s = some r) : GU l D A B Z mX12_flagsOf 7 (r.1, some (.int r.2)) s 5 [(0, .ref (B + 1079)), (1, .int x1), (2, .int x2), (3, .int x3), (4, .int x4)] [] := by
  unfold fb_X12_flagsOf_5 at h
  refine uu_iload dX12_flagsOf_5 (List.mem_of_getElem? (i := 4) rfl) ?_
  refine uu_iload_n dX12_flagsOf_7 rfl (List.mem_of_getElem? (i := 2) rfl) ?_
  refine uu_icmp_ge (tgt := 32) dX12_flagsOf_8 (by decide) (fun c1 => ?_) (fun c1 => ?_)
  · replace h := uu_pos c1 h
    refine uu_iload_n dX12_flagsOf_32 rfl (List.mem_of_getElem? (i := 3) rfl) ?_
    have hr := Option.some.inj h
    subst hr
    exact uu_iret rfl dX12_flagsOf_33
  · replace h := uu_neg c1 h
    refine uu_aload_n dX12_flagsOf_11 rfl (List.mem_of_getElem? (i := 0) rfl) ?_
    refine uu_iload_n dX12_flagsOf_12 rfl (List.mem_of_getElem? (i := 1) rfl) ?_
    refine uu_iload dX12_flagsOf_13 (List.mem_of_getElem? (i := 4) rfl) ?_
    refine uu_iadd dX12_flagsOf_15 ?_
    obtain ⟨s2, e3, h⟩ := uu_ob h
    refine uu_cv (d1 := 0) (k := 1079) (ci := 12) (T := TX12) (N := 153) (As := [.int (x1 + x4)]) (st := []) (st' := []) (xc_X12_oneString uk  e3) so_1079.is (by decide) rfl kX12_oneString lX12_466 sX12_oneString (by decide) (Nat.le_of_ble_eq_true rfl) dX12_flagsOf_16 rfl ?_
    refine uu_iload_n dX12_flagsOf_19 rfl (List.mem_of_getElem? (i := 3) rfl) ?_
    refine uu_aload_n dX12_flagsOf_20 rfl (List.mem_of_getElem? (i := 0) rfl) ?_
    obtain ⟨r4, e5, h⟩ := uu_ob h
    refine uu_cv (d1 := 6) (k := 1079) (ci := 12) (T := TX12) (N := 153) (As := []) (st := [.int x3]) (st' := [.int r4.2, .int x3]) (xc_X12_flagOf uk  e5) so_1079.is (by decide) rfl kX12_flagOf lX12_600 sX12_flagOf (by decide) (Nat.le_of_ble_eq_true rfl) dX12_flagsOf_21 rfl ?_
    refine uu_ior dX12_flagsOf_24 ?_
    refine uu_istore_n dX12_flagsOf_25 rfl (by decide) rfl ?_
    refine uu_iinc (v := x4 + 1) dX12_flagsOf_26 (k := 4) rfl rfl (by decide) rfl ?_
    refine uu_goto (tgt := 5) dX12_flagsOf_29 (by decide) ?_
    refine uu_lv [2, 3, 4, 1, 0] (lv' := [(0, .ref (B + 1079)), (1, .int x1), (2, .int x2), (3, .int (x3 ||| r4.2)), (4, .int (x4 + 1))]) rfl ?_
    exact hK5 x1 x2 (x3 ||| r4.2) (x4 + 1) _ _ h
def fn_X12_flagsOf_5  : Nat → Int32 → Int32 → Int32 → Int32 → uS → Option (uS × Int32)
  | 0 => fun _ _ _ _ _ => none
  | n + 1 => fb_X12_flagsOf_5 (fn_X12_flagsOf_5  n)
set_option maxRecDepth 100000 in
set_option maxHeartbeats 4000000 in
theorem xn_X12_flagsOf_5 {l : Launch} {D : va_G} {A : Nat → ClassId} {B : Nat} {Z : State → Heap → Prop} {vF : Value} (uk : uK B Z vF)   : ∀ (n : Nat) (x1 : Int32) (x2 : Int32) (x3 : Int32) (x4 : Int32)  (s : uS) (r : (uS × Int32)), fn_X12_flagsOf_5  n x1 x2 x3 x4 s = some r → GU l D A B Z mX12_flagsOf 7 (r.1, some (.int r.2)) s 5 [(0, .ref (B + 1079)), (1, .int x1), (2, .int x2), (3, .int x3), (4, .int x4)] [] := by
  intro n
  induction n with
  | zero => intro x1 x2 x3 x4 s r h
            cases h
  | succ n ih => intro x1 x2 x3 x4 s r h
                 exact xb_X12_flagsOf_5 uk ih  h
def fn_X12_flagsOf (x1 : Int32) (x2 : Int32) (s : uS) : Option (uS × Int32) := fn_X12_flagsOf_5 uFu x1 x2 0 0 s
set_option maxRecDepth 100000 in
set_option maxHeartbeats 4000000 in
theorem xc_X12_flagsOf {l : Launch} {D : va_G} {A : Nat → ClassId} {B : Nat} {Z : State → Heap → Prop} {vF : Value} (uk : uK B Z vF) {x1 : Int32} {x2 : Int32} {s : uS} {r : (uS × Int32)}  (h : fn_X12_flagsOf x1 x2 s = some r) : CU l D A B Z 7 mX12_flagsOf s [.ref (B + 1079), .int x1, .int x2] (r.1, some (.int r.2)) := by
  unfold fn_X12_flagsOf at h
  refine cu_of rfl uk.1.1 (Nat.le_of_ble_eq_true rfl) ?_
  show GU _ _ _ _ _ _ _ _ _ 0 [(0, .ref (B + 1079)), (1, .int x1), (2, .int x2)] []
  refine uu_iconst (v := 0) dX12_flagsOf_0 (by decide) ?_
  refine uu_istore_n dX12_flagsOf_1 rfl (by decide) rfl ?_
  refine uu_iconst (v := 0) dX12_flagsOf_2 (by decide) ?_
  refine uu_istore dX12_flagsOf_3 (by decide) rfl ?_
  refine uu_lv [2, 3, 4, 1, 0] (lv' := [(0, .ref (B + 1079)), (1, .int x1), (2, .int x2), (3, .int 0), (4, .int 0)]) rfl ?_
  exact xn_X12_flagsOf_5 uk  _ _ _ _ _ _ _ h
abbrev mX12_digitsOf : hM := (yX12_digitsOf, cX12_digitsOf, 4, (some (.int)))
theorem dX12_digitsOf_26 : decode cX12_digitsOf 26 = .ok (.invokestatic 137, 3) := by decide +kernel
theorem dX12_digitsOf_29 : decode cX12_digitsOf 29 = .ok (.ifCond .eq 10, 3) := by decide +kernel
theorem dX12_digitsOf_39 : decode cX12_digitsOf 39 = .ok (.iload_n 3, 1) := by decide +kernel
theorem dX12_digitsOf_40 : decode cX12_digitsOf 40 = .ok (.ireturn, 1) := by decide +kernel
theorem dX12_digitsOf_32 : decode cX12_digitsOf 32 = .ok (.iload_n 3, 1) := by decide +kernel
theorem dX12_digitsOf_33 : decode cX12_digitsOf 33 = .ok (.iconst 1, 1) := by decide +kernel
theorem dX12_digitsOf_34 : decode cX12_digitsOf 34 = .ok (.iadd, 1) := by decide +kernel
theorem dX12_digitsOf_35 : decode cX12_digitsOf 35 = .ok (.istore_n 3, 1) := by decide +kernel
theorem dX12_digitsOf_36 : decode cX12_digitsOf 36 = .ok (.goto (-34), 3) := by decide +kernel
theorem dX12_digitsOf_2 : decode cX12_digitsOf 2 = .ok (.iload_n 3, 1) := by decide +kernel
theorem dX12_digitsOf_3 : decode cX12_digitsOf 3 = .ok (.iload_n 1, 1) := by decide +kernel
theorem dX12_digitsOf_4 : decode cX12_digitsOf 4 = .ok (.if_icmp .ge 35, 3) := by decide +kernel
theorem dX12_digitsOf_7 : decode cX12_digitsOf 7 = .ok (.iload_n 2, 1) := by decide +kernel
theorem dX12_digitsOf_8 : decode cX12_digitsOf 8 = .ok (.ifCond .eq 12, 3) := by decide +kernel
theorem dX12_digitsOf_20 : decode cX12_digitsOf 20 = .ok (.aload_n 0, 1) := by decide +kernel
theorem dX12_digitsOf_21 : decode cX12_digitsOf 21 = .ok (.getfield 116, 3) := by decide +kernel
theorem dX12_digitsOf_24 : decode cX12_digitsOf 24 = .ok (.iload_n 3, 1) := by decide +kernel
theorem dX12_digitsOf_25 : decode cX12_digitsOf 25 = .ok (.iaload, 1) := by decide +kernel
theorem dX12_digitsOf_11 : decode cX12_digitsOf 11 = .ok (.aload_n 0, 1) := by decide +kernel
theorem dX12_digitsOf_12 : decode cX12_digitsOf 12 = .ok (.getfield 122, 3) := by decide +kernel
theorem dX12_digitsOf_15 : decode cX12_digitsOf 15 = .ok (.iload_n 3, 1) := by decide +kernel
theorem dX12_digitsOf_16 : decode cX12_digitsOf 16 = .ok (.iaload, 1) := by decide +kernel
theorem dX12_digitsOf_17 : decode cX12_digitsOf 17 = .ok (.goto 9, 3) := by decide +kernel
theorem dX12_digitsOf_0 : decode cX12_digitsOf 0 = .ok (.iconst 0, 1) := by decide +kernel
theorem dX12_digitsOf_1 : decode cX12_digitsOf 1 = .ok (.istore_n 3, 1) := by decide +kernel
def fb_X12_digitsOf_26 (K2 : Int32 → Bool → Int32 → uS → Option Int32) (x1 : Int32) (b2 : Bool) (x3 : Int32) (xs0 : Int32) (s : uS) : Option Int32 := (fn_X12_isDigit xs0 s).bind fun v1 => if v1 = true then (K2 x1 b2 (x3 + 1) s) else (some x3)
set_option maxRecDepth 100000 in
set_option maxHeartbeats 4000000 in
theorem xb_X12_digitsOf_26 {l : Launch} {D : va_G} {A : Nat → ClassId} {B : Nat} {Z : State → Heap → Prop} {vF : Value} (uk : uK B Z vF) {K2 : Int32 → Bool → Int32 → uS → Option Int32} (hK2 : ∀ (x1 : Int32) (b2 : Bool) (x3 : Int32)  (s : uS) (r : Int32), K2 x1 b2 x3 s = some r → GU l D A B Z mX12_digitsOf 1 (s, some (.int r)) s 2 [(0, .ref (B + 1079)), (1, .int x1), (2, .int (bI b2)), (3, .int x3)] []) {x1 : Int32} {b2 : Bool} {x3 : Int32} {xs0 : Int32} {s : uS} {r : Int32}  (h : fb_X12_digitsOf_26 K2 x1 b2 x3 xs0 s = some r) : GU l D A B Z mX12_digitsOf 1 (s, some (.int r)) s 26 [(0, .ref (B + 1079)), (1, .int x1), (2, .int (bI b2)), (3, .int x3)] [.int xs0] := by
  unfold fb_X12_digitsOf_26 at h
  obtain ⟨v1, e2, h⟩ := uu_ob h
  refine uu_cs (d1 := 0) (As := [.int xs0]) (st := []) (st' := [.int (bI v1)]) (xc_X12_isDigit uk  e2) kX12_isDigit lX12_137 sX12_isDigit (by decide) (Nat.le_of_ble_eq_true rfl) dX12_digitsOf_26 rfl ?_
  refine uu_ifb_eq (tgt := 39) dX12_digitsOf_29 (by decide) (fun c3 => ?_) (fun c3 => ?_)
  · replace h := uu_neg c3 h
    refine uu_iload_n dX12_digitsOf_39 rfl (List.mem_of_getElem? (i := 3) rfl) ?_
    have hr := Option.some.inj h
    subst hr
    exact uu_iret rfl dX12_digitsOf_40
  · replace h := uu_pos c3 h
    refine uu_iload_n dX12_digitsOf_32 rfl (List.mem_of_getElem? (i := 3) rfl) ?_
    refine uu_iconst (v := 1) dX12_digitsOf_33 (by decide) ?_
    refine uu_iadd dX12_digitsOf_34 ?_
    refine uu_istore_n dX12_digitsOf_35 rfl (by decide) rfl ?_
    refine uu_goto (tgt := 2) dX12_digitsOf_36 (by decide) ?_
    refine uu_lv [1, 2, 3, 0] (lv' := [(0, .ref (B + 1079)), (1, .int x1), (2, .int (bI b2)), (3, .int (x3 + 1))]) rfl ?_
    exact hK2 x1 b2 (x3 + 1) _ _ h
def fb_X12_digitsOf_2 (K2 : Int32 → Bool → Int32 → uS → Option Int32) (x1 : Int32) (b2 : Bool) (x3 : Int32) (s : uS) : Option Int32 := if x1 ≤ x3 then (some x3) else (if b2 = true then ((iget 20 s 1094 x3).bind fun v5 => fb_X12_digitsOf_26 K2 x1 b2 x3 v5 s) else ((iget 20 s 1093 x3).bind fun v3 => fb_X12_digitsOf_26 K2 x1 b2 x3 v3 s))
set_option maxRecDepth 100000 in
set_option maxHeartbeats 4000000 in
theorem xb_X12_digitsOf_2 {l : Launch} {D : va_G} {A : Nat → ClassId} {B : Nat} {Z : State → Heap → Prop} {vF : Value} (uk : uK B Z vF) {K2 : Int32 → Bool → Int32 → uS → Option Int32} (hK2 : ∀ (x1 : Int32) (b2 : Bool) (x3 : Int32)  (s : uS) (r : Int32), K2 x1 b2 x3 s = some r → GU l D A B Z mX12_digitsOf 1 (s, some (.int r)) s 2 [(0, .ref (B + 1079)), (1, .int x1), (2, .int (bI b2)), (3, .int x3)] []) {x1 : Int32} {b2 : Bool} {x3 : Int32} {s : uS} {r : Int32}  (h : fb_X12_digitsOf_2 K2 x1 b2 x3 s = some r) : GU l D A B Z mX12_digitsOf 1 (s, some (.int r)) s 2 [(0, .ref (B + 1079)), (1, .int x1), (2, .int (bI b2)), (3, .int x3)] [] := by
  unfold fb_X12_digitsOf_2 at h
  refine uu_iload_n dX12_digitsOf_2 rfl (List.mem_of_getElem? (i := 3) rfl) ?_
  refine uu_iload_n dX12_digitsOf_3 rfl (List.mem_of_getElem? (i := 1) rfl) ?_
  refine uu_icmp_ge (tgt := 39) dX12_digitsOf_4 (by decide) (fun c1 => ?_) (fun c1 => ?_)
  · replace h := uu_pos c1 h
    refine uu_iload_n dX12_digitsOf_39 rfl (List.mem_of_getElem? (i := 3) rfl) ?_
    have hr := Option.some.inj h
    subst hr
    exact uu_iret rfl dX12_digitsOf_40
  · replace h := uu_neg c1 h
    refine uu_iload_n dX12_digitsOf_7 rfl (List.mem_of_getElem? (i := 2) rfl) ?_
    refine uu_ifb_eq (tgt := 20) dX12_digitsOf_8 (by decide) (fun c2 => ?_) (fun c2 => ?_)
    · replace h := uu_neg c2 h
      refine uu_aload_n dX12_digitsOf_20 rfl (List.mem_of_getElem? (i := 0) rfl) ?_
      refine uu_geta (ci := 12) (N := 153) fX12_116 (by decide) so_1079.is (by decide) (c := 1093) (by decide) dX12_digitsOf_21 ?_
      refine uu_iload_n dX12_digitsOf_24 rfl (List.mem_of_getElem? (i := 3) rfl) ?_
      obtain ⟨v3, e4, h⟩ := uu_ob h
      refine uu_iald e4 dX12_digitsOf_25 ?_
      exact xb_X12_digitsOf_26 uk hK2 h
    · replace h := uu_pos c2 h
      refine uu_aload_n dX12_digitsOf_11 rfl (List.mem_of_getElem? (i := 0) rfl) ?_
      refine uu_geta (ci := 12) (N := 153) fX12_122 (by decide) so_1079.is (by decide) (c := 1094) (by decide) dX12_digitsOf_12 ?_
      refine uu_iload_n dX12_digitsOf_15 rfl (List.mem_of_getElem? (i := 3) rfl) ?_
      obtain ⟨v5, e6, h⟩ := uu_ob h
      refine uu_iald e6 dX12_digitsOf_16 ?_
      refine uu_goto (tgt := 26) dX12_digitsOf_17 (by decide) ?_
      exact xb_X12_digitsOf_26 uk hK2 h
def fn_X12_digitsOf_2  : Nat → Int32 → Bool → Int32 → uS → Option Int32
  | 0 => fun _ _ _ _ => none
  | n + 1 => fb_X12_digitsOf_2 (fn_X12_digitsOf_2  n)
set_option maxRecDepth 100000 in
set_option maxHeartbeats 4000000 in
theorem xn_X12_digitsOf_2 {l : Launch} {D : va_G} {A : Nat → ClassId} {B : Nat} {Z : State → Heap → Prop} {vF : Value} (uk : uK B Z vF)   : ∀ (n : Nat) (x1 : Int32) (b2 : Bool) (x3 : Int32)  (s : uS) (r : Int32), fn_X12_digitsOf_2  n x1 b2 x3 s = some r → GU l D A B Z mX12_digitsOf 1 (s, some (.int r)) s 2 [(0, .ref (B + 1079)), (1, .int x1), (2, .int (bI b2)), (3, .int x3)] [] := by
  intro n
  induction n with
  | zero => intro x1 b2 x3 s r h
            cases h
  | succ n ih => intro x1 b2 x3 s r h
                 exact xb_X12_digitsOf_2 uk ih  h
def fn_X12_digitsOf (x1 : Int32) (b2 : Bool) (s : uS) : Option Int32 := fn_X12_digitsOf_2 uFu x1 b2 0 s
set_option maxRecDepth 100000 in
set_option maxHeartbeats 4000000 in
theorem xc_X12_digitsOf {l : Launch} {D : va_G} {A : Nat → ClassId} {B : Nat} {Z : State → Heap → Prop} {vF : Value} (uk : uK B Z vF) {x1 : Int32} {b2 : Bool} {s : uS} {r : Int32}  (h : fn_X12_digitsOf x1 b2 s = some r) : CU l D A B Z 1 mX12_digitsOf s [.ref (B + 1079), .int x1, .int (bI b2)] (s, some (.int r)) := by
  unfold fn_X12_digitsOf at h
  refine cu_of rfl uk.1.1 (Nat.le_of_ble_eq_true rfl) ?_
  show GU _ _ _ _ _ _ _ _ _ 0 [(0, .ref (B + 1079)), (1, .int x1), (2, .int (bI b2))] []
  refine uu_iconst (v := 0) dX12_digitsOf_0 (by decide) ?_
  refine uu_istore_n dX12_digitsOf_1 rfl (by decide) rfl ?_
  refine uu_lv [1, 2, 3, 0] (lv' := [(0, .ref (B + 1079)), (1, .int x1), (2, .int (bI b2)), (3, .int 0)]) rfl ?_
  exact xn_X12_digitsOf_2 uk  _ _ _ _ _ _ h
