abbrev mX12_trim : hM := (yX12_trim, cX12_trim, 4, none)
theorem dX12_trim_84 : decode cX12_trim 84 = .ok (.aload_n 0, 1) := by decide +kernel
theorem dX12_trim_85 : decode cX12_trim 85 = .ok (.getfield 98, 3) := by decide +kernel
theorem dX12_trim_88 : decode cX12_trim 88 = .ok (.aload_n 0, 1) := by decide +kernel
theorem dX12_trim_89 : decode cX12_trim 89 = .ok (.getfield 85, 3) := by decide +kernel
theorem dX12_trim_92 : decode cX12_trim 92 = .ok (.iload_n 2, 1) := by decide +kernel
theorem dX12_trim_93 : decode cX12_trim 93 = .ok (.iastore, 1) := by decide +kernel
theorem dX12_trim_94 : decode cX12_trim 94 = .ok (.aload_n 0, 1) := by decide +kernel
theorem dX12_trim_95 : decode cX12_trim 95 = .ok (.getfield 107, 3) := by decide +kernel
theorem dX12_trim_98 : decode cX12_trim 98 = .ok (.aload_n 0, 1) := by decide +kernel
theorem dX12_trim_99 : decode cX12_trim 99 = .ok (.getfield 85, 3) := by decide +kernel
theorem dX12_trim_102 : decode cX12_trim 102 = .ok (.iload_n 3, 1) := by decide +kernel
theorem dX12_trim_103 : decode cX12_trim 103 = .ok (.iload_n 2, 1) := by decide +kernel
theorem dX12_trim_104 : decode cX12_trim 104 = .ok (.isub, 1) := by decide +kernel
theorem dX12_trim_105 : decode cX12_trim 105 = .ok (.iastore, 1) := by decide +kernel
theorem dX12_trim_106 : decode cX12_trim 106 = .ok (.return_, 1) := by decide +kernel
theorem dX12_trim_46 : decode cX12_trim 46 = .ok (.iload_n 3, 1) := by decide +kernel
theorem dX12_trim_47 : decode cX12_trim 47 = .ok (.iload_n 2, 1) := by decide +kernel
theorem dX12_trim_48 : decode cX12_trim 48 = .ok (.if_icmp .le 36, 3) := by decide +kernel
theorem dX12_trim_51 : decode cX12_trim 51 = .ok (.aload_n 0, 1) := by decide +kernel
theorem dX12_trim_52 : decode cX12_trim 52 = .ok (.getfield 101, 3) := by decide +kernel
theorem dX12_trim_55 : decode cX12_trim 55 = .ok (.iload_n 3, 1) := by decide +kernel
theorem dX12_trim_56 : decode cX12_trim 56 = .ok (.iconst 1, 1) := by decide +kernel
theorem dX12_trim_57 : decode cX12_trim 57 = .ok (.isub, 1) := by decide +kernel
theorem dX12_trim_58 : decode cX12_trim 58 = .ok (.iaload, 1) := by decide +kernel
theorem dX12_trim_59 : decode cX12_trim 59 = .ok (.bipush 32, 2) := by decide +kernel
theorem dX12_trim_61 : decode cX12_trim 61 = .ok (.if_icmp .eq 16, 3) := by decide +kernel
theorem dX12_trim_77 : decode cX12_trim 77 = .ok (.iload_n 3, 1) := by decide +kernel
theorem dX12_trim_78 : decode cX12_trim 78 = .ok (.iconst 1, 1) := by decide +kernel
theorem dX12_trim_79 : decode cX12_trim 79 = .ok (.isub, 1) := by decide +kernel
theorem dX12_trim_80 : decode cX12_trim 80 = .ok (.istore_n 3, 1) := by decide +kernel
theorem dX12_trim_81 : decode cX12_trim 81 = .ok (.goto (-35), 3) := by decide +kernel
theorem dX12_trim_64 : decode cX12_trim 64 = .ok (.aload_n 0, 1) := by decide +kernel
theorem dX12_trim_65 : decode cX12_trim 65 = .ok (.getfield 101, 3) := by decide +kernel
theorem dX12_trim_68 : decode cX12_trim 68 = .ok (.iload_n 3, 1) := by decide +kernel
theorem dX12_trim_69 : decode cX12_trim 69 = .ok (.iconst 1, 1) := by decide +kernel
theorem dX12_trim_70 : decode cX12_trim 70 = .ok (.isub, 1) := by decide +kernel
theorem dX12_trim_71 : decode cX12_trim 71 = .ok (.iaload, 1) := by decide +kernel
theorem dX12_trim_72 : decode cX12_trim 72 = .ok (.bipush 9, 2) := by decide +kernel
theorem dX12_trim_74 : decode cX12_trim 74 = .ok (.if_icmp .ne 10, 3) := by decide +kernel
theorem dX12_trim_12 : decode cX12_trim 12 = .ok (.iload_n 2, 1) := by decide +kernel
theorem dX12_trim_13 : decode cX12_trim 13 = .ok (.iload_n 3, 1) := by decide +kernel
theorem dX12_trim_14 : decode cX12_trim 14 = .ok (.if_icmp .ge 32, 3) := by decide +kernel
theorem dX12_trim_17 : decode cX12_trim 17 = .ok (.aload_n 0, 1) := by decide +kernel
theorem dX12_trim_18 : decode cX12_trim 18 = .ok (.getfield 101, 3) := by decide +kernel
theorem dX12_trim_21 : decode cX12_trim 21 = .ok (.iload_n 2, 1) := by decide +kernel
theorem dX12_trim_22 : decode cX12_trim 22 = .ok (.iaload, 1) := by decide +kernel
theorem dX12_trim_23 : decode cX12_trim 23 = .ok (.bipush 32, 2) := by decide +kernel
theorem dX12_trim_25 : decode cX12_trim 25 = .ok (.if_icmp .eq 14, 3) := by decide +kernel
theorem dX12_trim_39 : decode cX12_trim 39 = .ok (.iload_n 2, 1) := by decide +kernel
theorem dX12_trim_40 : decode cX12_trim 40 = .ok (.iconst 1, 1) := by decide +kernel
theorem dX12_trim_41 : decode cX12_trim 41 = .ok (.iadd, 1) := by decide +kernel
theorem dX12_trim_42 : decode cX12_trim 42 = .ok (.istore_n 2, 1) := by decide +kernel
theorem dX12_trim_43 : decode cX12_trim 43 = .ok (.goto (-31), 3) := by decide +kernel
theorem dX12_trim_28 : decode cX12_trim 28 = .ok (.aload_n 0, 1) := by decide +kernel
theorem dX12_trim_29 : decode cX12_trim 29 = .ok (.getfield 101, 3) := by decide +kernel
theorem dX12_trim_32 : decode cX12_trim 32 = .ok (.iload_n 2, 1) := by decide +kernel
theorem dX12_trim_33 : decode cX12_trim 33 = .ok (.iaload, 1) := by decide +kernel
theorem dX12_trim_34 : decode cX12_trim 34 = .ok (.bipush 9, 2) := by decide +kernel
theorem dX12_trim_36 : decode cX12_trim 36 = .ok (.if_icmp .ne 10, 3) := by decide +kernel
theorem dX12_trim_0 : decode cX12_trim 0 = .ok (.aload_n 0, 1) := by decide +kernel
theorem dX12_trim_1 : decode cX12_trim 1 = .ok (.getfield 98, 3) := by decide +kernel
theorem dX12_trim_4 : decode cX12_trim 4 = .ok (.aload_n 0, 1) := by decide +kernel
theorem dX12_trim_5 : decode cX12_trim 5 = .ok (.getfield 85, 3) := by decide +kernel
theorem dX12_trim_8 : decode cX12_trim 8 = .ok (.iaload, 1) := by decide +kernel
theorem dX12_trim_9 : decode cX12_trim 9 = .ok (.istore_n 2, 1) := by decide +kernel
theorem dX12_trim_10 : decode cX12_trim 10 = .ok (.iload_n 1, 1) := by decide +kernel
theorem dX12_trim_11 : decode cX12_trim 11 = .ok (.istore_n 3, 1) := by decide +kernel
def fb_X12_trim_84  (x2 : Int32) (x3 : Int32) (s : uS) : Option uS := (iput 20 s 1090 (s.I 1079 14) x2).bind fun s1 => (iput 20 s1 1091 (s1.I 1079 14) (x3 - x2)).bind fun s3 => some s3
set_option maxRecDepth 100000 in
set_option maxHeartbeats 4000000 in
theorem xb_X12_trim_84 {l : Launch} {D : va_G} {A : Nat → ClassId} {B : Nat} {Z : State → Heap → Prop} {vF : Value} (uk : uK B Z vF)   {x2 : Int32} {x3 : Int32} {s : uS} {r : uS}  (h : fb_X12_trim_84  x2 x3 s = some r) : GU l D A B Z mX12_trim 0 (r, none) s 84 [(0, .ref (B + 1079)), (2, .int x2), (3, .int x3)] [] := by
  unfold fb_X12_trim_84 at h
  refine uu_aload_n dX12_trim_84 rfl (List.mem_of_getElem? (i := 0) rfl) ?_
  refine uu_geta (ci := 12) (N := 153) fX12_98 (by decide) so_1079.is (by decide) (c := 1090) (by decide) dX12_trim_85 ?_
  refine uu_aload_n dX12_trim_88 rfl (List.mem_of_getElem? (i := 0) rfl) ?_
  refine uu_geti (ci := 12) (N := 153) fX12_85 (by decide) so_1079.is (by decide) (by decide) dX12_trim_89 ?_
  refine uu_iload_n dX12_trim_92 rfl (List.mem_of_getElem? (i := 1) rfl) ?_
  obtain ⟨s1, e2, h⟩ := uu_ob h
  refine uu_iast e2 dX12_trim_93 ?_
  refine uu_aload_n dX12_trim_94 rfl (List.mem_of_getElem? (i := 0) rfl) ?_
  refine uu_geta (ci := 12) (N := 153) fX12_107 (by decide) so_1079.is (by decide) (c := 1091) (by decide) dX12_trim_95 ?_
  refine uu_aload_n dX12_trim_98 rfl (List.mem_of_getElem? (i := 0) rfl) ?_
  refine uu_geti (ci := 12) (N := 153) fX12_85 (by decide) so_1079.is (by decide) (by decide) dX12_trim_99 ?_
  refine uu_iload_n dX12_trim_102 rfl (List.mem_of_getElem? (i := 2) rfl) ?_
  refine uu_iload_n dX12_trim_103 rfl (List.mem_of_getElem? (i := 1) rfl) ?_
  refine uu_isub dX12_trim_104 ?_
  obtain ⟨s3, e4, h⟩ := uu_ob h
  refine uu_iast e4 dX12_trim_105 ?_
  have hr := Option.some.inj h
  subst hr
  exact uu_vret rfl dX12_trim_106
def fb_X12_trim_46 (K46 : Int32 → Int32 → uS → Option uS) (x2 : Int32) (x3 : Int32) (s : uS) : Option uS := if x3 ≤ x2 then (fb_X12_trim_84 x2 x3 s) else ((iget 20 s 1092 (x3 - 1)).bind fun v2 => if v2 = 32 then (K46 x2 (x3 - 1) s) else ((iget 20 s 1092 (x3 - 1)).bind fun v5 => if v5 = 9 then (K46 x2 (x3 - 1) s) else (fb_X12_trim_84 x2 x3 s)))
set_option maxRecDepth 100000 in
set_option maxHeartbeats 4000000 in
theorem xb_X12_trim_46 {l : Launch} {D : va_G} {A : Nat → ClassId} {B : Nat} {Z : State → Heap → Prop} {vF : Value} (uk : uK B Z vF) {K46 : Int32 → Int32 → uS → Option uS} (hK46 : ∀ (x2 : Int32) (x3 : Int32)  (s : uS) (r : uS), K46 x2 x3 s = some r → GU l D A B Z mX12_trim 0 (r, none) s 46 [(0, .ref (B + 1079)), (2, .int x2), (3, .int x3)] []) {x2 : Int32} {x3 : Int32} {s : uS} {r : uS}  (h : fb_X12_trim_46 K46 x2 x3 s = some r) : GU l D A B Z mX12_trim 0 (r, none) s 46 [(0, .ref (B + 1079)), (2, .int x2), (3, .int x3)] [] := by
  unfold fb_X12_trim_46 at h
  refine uu_iload_n dX12_trim_46 rfl (List.mem_of_getElem? (i := 2) rfl) ?_
  refine uu_iload_n dX12_trim_47 rfl (List.mem_of_getElem? (i := 1) rfl) ?_
  refine uu_icmp_le (tgt := 84) dX12_trim_48 (by decide) (fun c1 => ?_) (fun c1 => ?_)
  · replace h := uu_pos c1 h
    exact xb_X12_trim_84 uk  h
  · replace h := uu_neg c1 h
    refine uu_aload_n dX12_trim_51 rfl (List.mem_of_getElem? (i := 0) rfl) ?_
    refine uu_geta (ci := 12) (N := 153) fX12_101 (by decide) so_1079.is (by decide) (c := 1092) (by decide) dX12_trim_52 ?_
    refine uu_iload_n dX12_trim_55 rfl (List.mem_of_getElem? (i := 2) rfl) ?_
    refine uu_iconst (v := 1) dX12_trim_56 (by decide) ?_
    refine uu_isub dX12_trim_57 ?_
    obtain ⟨v2, e3, h⟩ := uu_ob h
    refine uu_iald e3 dX12_trim_58 ?_
    refine uu_bipush (v := 32) dX12_trim_59 (by decide) ?_
    refine uu_icmp_eq (tgt := 77) dX12_trim_61 (by decide) (fun c4 => ?_) (fun c4 => ?_)
    · replace h := uu_pos c4 h
      refine uu_iload_n dX12_trim_77 rfl (List.mem_of_getElem? (i := 2) rfl) ?_
      refine uu_iconst (v := 1) dX12_trim_78 (by decide) ?_
      refine uu_isub dX12_trim_79 ?_
      refine uu_istore_n dX12_trim_80 rfl (by decide) rfl ?_
      refine uu_goto (tgt := 46) dX12_trim_81 (by decide) ?_
      refine uu_lv [1, 2, 0] (lv' := [(0, .ref (B + 1079)), (2, .int x2), (3, .int (x3 - 1))]) rfl ?_
      exact hK46 x2 (x3 - 1) _ _ h
    · replace h := uu_neg c4 h
      refine uu_aload_n dX12_trim_64 rfl (List.mem_of_getElem? (i := 0) rfl) ?_
      refine uu_geta (ci := 12) (N := 153) fX12_101 (by decide) so_1079.is (by decide) (c := 1092) (by decide) dX12_trim_65 ?_
      refine uu_iload_n dX12_trim_68 rfl (List.mem_of_getElem? (i := 2) rfl) ?_
      refine uu_iconst (v := 1) dX12_trim_69 (by decide) ?_
      refine uu_isub dX12_trim_70 ?_
      obtain ⟨v5, e6, h⟩ := uu_ob h
      refine uu_iald e6 dX12_trim_71 ?_
      refine uu_bipush (v := 9) dX12_trim_72 (by decide) ?_
      refine uu_icmp_ne (tgt := 84) dX12_trim_74 (by decide) (fun c7 => ?_) (fun c7 => ?_)
      · replace h := uu_neg c7 h
        exact xb_X12_trim_84 uk  h
      · replace h := uu_pos c7 h
        refine uu_iload_n dX12_trim_77 rfl (List.mem_of_getElem? (i := 2) rfl) ?_
        refine uu_iconst (v := 1) dX12_trim_78 (by decide) ?_
        refine uu_isub dX12_trim_79 ?_
        refine uu_istore_n dX12_trim_80 rfl (by decide) rfl ?_
        refine uu_goto (tgt := 46) dX12_trim_81 (by decide) ?_
        refine uu_lv [1, 2, 0] (lv' := [(0, .ref (B + 1079)), (2, .int x2), (3, .int (x3 - 1))]) rfl ?_
        exact hK46 x2 (x3 - 1) _ _ h
def fn_X12_trim_46  : Nat → Int32 → Int32 → uS → Option uS
  | 0 => fun _ _ _ => none
  | n + 1 => fb_X12_trim_46 (fn_X12_trim_46  n)
set_option maxRecDepth 100000 in
set_option maxHeartbeats 4000000 in
theorem xn_X12_trim_46 {l : Launch} {D : va_G} {A : Nat → ClassId} {B : Nat} {Z : State → Heap → Prop} {vF : Value} (uk : uK B Z vF)   : ∀ (n : Nat) (x2 : Int32) (x3 : Int32)  (s : uS) (r : uS), fn_X12_trim_46  n x2 x3 s = some r → GU l D A B Z mX12_trim 0 (r, none) s 46 [(0, .ref (B + 1079)), (2, .int x2), (3, .int x3)] [] := by
  intro n
  induction n with
  | zero => intro x2 x3 s r h
            cases h
  | succ n ih => intro x2 x3 s r h
                 exact xb_X12_trim_46 uk ih  h
def fb_X12_trim_12 (K12 : Int32 → Int32 → uS → Option uS) (x2 : Int32) (x3 : Int32) (s : uS) : Option uS := if x3 ≤ x2 then (fn_X12_trim_46 uFu x2 x3 s) else ((iget 20 s 1092 x2).bind fun v2 => if v2 = 32 then (K12 (x2 + 1) x3 s) else ((iget 20 s 1092 x2).bind fun v5 => if v5 = 9 then (K12 (x2 + 1) x3 s) else (fn_X12_trim_46 uFu x2 x3 s)))
set_option maxRecDepth 100000 in
set_option maxHeartbeats 4000000 in
theorem xb_X12_trim_12 {l : Launch} {D : va_G} {A : Nat → ClassId} {B : Nat} {Z : State → Heap → Prop} {vF : Value} (uk : uK B Z vF) {K12 : Int32 → Int32 → uS → Option uS} (hK12 : ∀ (x2 : Int32) (x3 : Int32)  (s : uS) (r : uS), K12 x2 x3 s = some r → GU l D A B Z mX12_trim 0 (r, none) s 12 [(0, .ref (B + 1079)), (2, .int x2), (3, .int x3)] []) {x2 : Int32} {x3 : Int32} {s : uS} {r : uS}  (h : fb_X12_trim_12 K12 x2 x3 s = some r) : GU l D A B Z mX12_trim 0 (r, none) s 12 [(0, .ref (B + 1079)), (2, .int x2), (3, .int x3)] [] := by
  unfold fb_X12_trim_12 at h
  refine uu_iload_n dX12_trim_12 rfl (List.mem_of_getElem? (i := 1) rfl) ?_
  refine uu_iload_n dX12_trim_13 rfl (List.mem_of_getElem? (i := 2) rfl) ?_
  refine uu_icmp_ge (tgt := 46) dX12_trim_14 (by decide) (fun c1 => ?_) (fun c1 => ?_)
  · replace h := uu_pos c1 h
    exact xn_X12_trim_46 uk  _ _ _ _ _ h
  · replace h := uu_neg c1 h
    refine uu_aload_n dX12_trim_17 rfl (List.mem_of_getElem? (i := 0) rfl) ?_
    refine uu_geta (ci := 12) (N := 153) fX12_101 (by decide) so_1079.is (by decide) (c := 1092) (by decide) dX12_trim_18 ?_
    refine uu_iload_n dX12_trim_21 rfl (List.mem_of_getElem? (i := 1) rfl) ?_
    obtain ⟨v2, e3, h⟩ := uu_ob h
    refine uu_iald e3 dX12_trim_22 ?_
    refine uu_bipush (v := 32) dX12_trim_23 (by decide) ?_
    refine uu_icmp_eq (tgt := 39) dX12_trim_25 (by decide) (fun c4 => ?_) (fun c4 => ?_)
    · replace h := uu_pos c4 h
      refine uu_iload_n dX12_trim_39 rfl (List.mem_of_getElem? (i := 1) rfl) ?_
      refine uu_iconst (v := 1) dX12_trim_40 (by decide) ?_
      refine uu_iadd dX12_trim_41 ?_
      refine uu_istore_n dX12_trim_42 rfl (by decide) rfl ?_
      refine uu_goto (tgt := 12) dX12_trim_43 (by decide) ?_
      refine uu_lv [1, 0, 2] (lv' := [(0, .ref (B + 1079)), (2, .int (x2 + 1)), (3, .int x3)]) rfl ?_
      exact hK12 (x2 + 1) x3 _ _ h
    · replace h := uu_neg c4 h
      refine uu_aload_n dX12_trim_28 rfl (List.mem_of_getElem? (i := 0) rfl) ?_
      refine uu_geta (ci := 12) (N := 153) fX12_101 (by decide) so_1079.is (by decide) (c := 1092) (by decide) dX12_trim_29 ?_
      refine uu_iload_n dX12_trim_32 rfl (List.mem_of_getElem? (i := 1) rfl) ?_
      obtain ⟨v5, e6, h⟩ := uu_ob h
      refine uu_iald e6 dX12_trim_33 ?_
      refine uu_bipush (v := 9) dX12_trim_34 (by decide) ?_
      refine uu_icmp_ne (tgt := 46) dX12_trim_36 (by decide) (fun c7 => ?_) (fun c7 => ?_)
      · replace h := uu_neg c7 h
        exact xn_X12_trim_46 uk  _ _ _ _ _ h
      · replace h := uu_pos c7 h
        refine uu_iload_n dX12_trim_39 rfl (List.mem_of_getElem? (i := 1) rfl) ?_
        refine uu_iconst (v := 1) dX12_trim_40 (by decide) ?_
        refine uu_iadd dX12_trim_41 ?_
        refine uu_istore_n dX12_trim_42 rfl (by decide) rfl ?_
        refine uu_goto (tgt := 12) dX12_trim_43 (by decide) ?_
        refine uu_lv [1, 0, 2] (lv' := [(0, .ref (B + 1079)), (2, .int (x2 + 1)), (3, .int x3)]) rfl ?_
        exact hK12 (x2 + 1) x3 _ _ h
def fn_X12_trim_12  : Nat → Int32 → Int32 → uS → Option uS
  | 0 => fun _ _ _ => none
  | n + 1 => fb_X12_trim_12 (fn_X12_trim_12  n)
set_option maxRecDepth 100000 in
set_option maxHeartbeats 4000000 in
theorem xn_X12_trim_12 {l : Launch} {D : va_G} {A : Nat → ClassId} {B : Nat} {Z : State → Heap → Prop} {vF : Value} (uk : uK B Z vF)   : ∀ (n : Nat) (x2 : Int32) (x3 : Int32)  (s : uS) (r : uS), fn_X12_trim_12  n x2 x3 s = some r → GU l D A B Z mX12_trim 0 (r, none) s 12 [(0, .ref (B + 1079)), (2, .int x2), (3, .int x3)] [] := by
  intro n
  induction n with
  | zero => intro x2 x3 s r h
            cases h
  | succ n ih => intro x2 x3 s r h
                 exact xb_X12_trim_12 uk ih  h
def fn_X12_trim (x1 : Int32) (s : uS) : Option uS := (iget 20 s 1090 (s.I 1079 14)).bind fun v1 => fn_X12_trim_12 uFu v1 x1 s
set_option maxRecDepth 100000 in
set_option maxHeartbeats 4000000 in
theorem xc_X12_trim {l : Launch} {D : va_G} {A : Nat → ClassId} {B : Nat} {Z : State → Heap → Prop} {vF : Value} (uk : uK B Z vF) {x1 : Int32} {s : uS} {r : uS}  (h : fn_X12_trim x1 s = some r) : CU l D A B Z 0 mX12_trim s [.ref (B + 1079), .int x1] (r, none) := by
  unfold fn_X12_trim at h
  refine cu_of rfl uk.1.1 (Nat.le_of_ble_eq_true rfl) ?_
  show GU _ _ _ _ _ _ _ _ _ 0 [(0, .ref (B + 1079)), (1, .int x1)] []
  refine uu_aload_n dX12_trim_0 rfl (List.mem_of_getElem? (i := 0) rfl) ?_
  refine uu_geta (ci := 12) (N := 153) fX12_98 (by decide) so_1079.is (by decide) (c := 1090) (by decide) dX12_trim_1 ?_
  refine uu_aload_n dX12_trim_4 rfl (List.mem_of_getElem? (i := 0) rfl) ?_
  refine uu_geti (ci := 12) (N := 153) fX12_85 (by decide) so_1079.is (by decide) (by decide) dX12_trim_5 ?_
  obtain ⟨v1, e2, h⟩ := uu_ob h
  refine uu_iald e2 dX12_trim_8 ?_
  refine uu_istore_n dX12_trim_9 rfl (by decide) rfl ?_
  refine uu_iload_n dX12_trim_10 rfl (List.mem_of_getElem? (i := 2) rfl) ?_
  refine uu_istore_n dX12_trim_11 rfl (by decide) rfl ?_
  refine uu_lv [2, 1, 0] (lv' := [(0, .ref (B + 1079)), (2, .int v1), (3, .int x1)]) rfl ?_
  exact xn_X12_trim_12 uk  _ _ _ _ _ h
abbrev mX12_readHeader : hM := (yX12_readHeader, cX12_readHeader, 8, none)
theorem dX12_readHeader_194 : decode cX12_readHeader 194 = .ok (.aload_n 0, 1) := by decide +kernel
theorem dX12_readHeader_195 : decode cX12_readHeader 195 = .ok (.iload_n 1, 1) := by decide +kernel
theorem kX12_trim : h_ml mX12_trim 1 := ⟨h_t8 40 rfl rfl, h_t1 16 rfl rfl, ⟨by decide, by decide, by decide +kernel⟩, by decide⟩
theorem lX12_104 : Cond.methodLink RX12 104 mX12_trim.1 ∈ lw_g := h_t8 37 rfl rfl
theorem sX12_trim : Cond.instanceMethod mX12_trim.1 ∈ lw_g ∧ Cond.selects mX12_trim.1.cls mX12_trim.1 mX12_trim.1 ∈ lw_g := ⟨h_t8 39 rfl rfl, h_ins 113 rfl⟩
theorem dX12_readHeader_196 : decode cX12_readHeader 196 = .ok (.invokevirtual 104, 3) := by decide +kernel
theorem dX12_readHeader_199 : decode cX12_readHeader 199 = .ok (.aload_n 0, 1) := by decide +kernel
theorem dX12_readHeader_200 : decode cX12_readHeader 200 = .ok (.aload_n 0, 1) := by decide +kernel
theorem dX12_readHeader_201 : decode cX12_readHeader 201 = .ok (.getfield 85, 3) := by decide +kernel
theorem dX12_readHeader_204 : decode cX12_readHeader 204 = .ok (.iconst 1, 1) := by decide +kernel
theorem dX12_readHeader_205 : decode cX12_readHeader 205 = .ok (.iadd, 1) := by decide +kernel
theorem dX12_readHeader_206 : decode cX12_readHeader 206 = .ok (.putfield 85, 3) := by decide +kernel
theorem dX12_readHeader_209 : decode cX12_readHeader 209 = .ok (.goto (-198), 3) := by decide +kernel
theorem dX12_readHeader_156 : decode cX12_readHeader 156 = .ok (.iload 7, 2) := by decide +kernel
theorem dX12_readHeader_158 : decode cX12_readHeader 158 = .ok (.iload 6, 2) := by decide +kernel
theorem dX12_readHeader_160 : decode cX12_readHeader 160 = .ok (.if_icmp .ge 26, 3) := by decide +kernel
theorem dX12_readHeader_186 : decode cX12_readHeader 186 = .ok (.iload 6, 2) := by decide +kernel
theorem dX12_readHeader_188 : decode cX12_readHeader 188 = .ok (.iconst 2, 1) := by decide +kernel
theorem dX12_readHeader_189 : decode cX12_readHeader 189 = .ok (.iadd, 1) := by decide +kernel
theorem dX12_readHeader_190 : decode cX12_readHeader 190 = .ok (.istore_n 2, 1) := by decide +kernel
theorem dX12_readHeader_191 : decode cX12_readHeader 191 = .ok (.goto (-75), 3) := by decide +kernel
theorem dX12_readHeader_163 : decode cX12_readHeader 163 = .ok (.aload_n 0, 1) := by decide +kernel
theorem dX12_readHeader_164 : decode cX12_readHeader 164 = .ok (.getfield 101, 3) := by decide +kernel
theorem dX12_readHeader_167 : decode cX12_readHeader 167 = .ok (.iload_n 1, 1) := by decide +kernel
theorem dX12_readHeader_168 : decode cX12_readHeader 168 = .ok (.aload_n 0, 1) := by decide +kernel
theorem dX12_readHeader_169 : decode cX12_readHeader 169 = .ok (.getfield 78, 3) := by decide +kernel
theorem dX12_readHeader_172 : decode cX12_readHeader 172 = .ok (.iload 7, 2) := by decide +kernel
theorem dX12_readHeader_174 : decode cX12_readHeader 174 = .ok (.iaload, 1) := by decide +kernel
theorem dX12_readHeader_175 : decode cX12_readHeader 175 = .ok (.iastore, 1) := by decide +kernel
theorem dX12_readHeader_176 : decode cX12_readHeader 176 = .ok (.iload_n 1, 1) := by decide +kernel
theorem dX12_readHeader_177 : decode cX12_readHeader 177 = .ok (.iconst 1, 1) := by decide +kernel
theorem dX12_readHeader_178 : decode cX12_readHeader 178 = .ok (.iadd, 1) := by decide +kernel
theorem dX12_readHeader_179 : decode cX12_readHeader 179 = .ok (.istore_n 1, 1) := by decide +kernel
theorem dX12_readHeader_180 : decode cX12_readHeader 180 = .ok (.iinc 7 1, 3) := by decide +kernel
theorem dX12_readHeader_183 : decode cX12_readHeader 183 = .ok (.goto (-27), 3) := by decide +kernel
theorem dX12_readHeader_146 : decode cX12_readHeader 146 = .ok (.aload_n 0, 1) := by decide +kernel
theorem dX12_readHeader_147 : decode cX12_readHeader 147 = .ok (.iload_n 2, 1) := by decide +kernel
theorem kX12_lineEnd : h_ml mX12_lineEnd 1 := ⟨h_t8 32 rfl rfl, h_t1 16 rfl rfl, ⟨by decide, by decide, by decide +kernel⟩, by decide⟩
theorem lX12_91 : Cond.methodLink RX12 91 mX12_lineEnd.1 ∈ lw_g := h_t8 29 rfl rfl
theorem sX12_lineEnd : Cond.instanceMethod mX12_lineEnd.1 ∈ lw_g ∧ Cond.selects mX12_lineEnd.1.cls mX12_lineEnd.1 mX12_lineEnd.1 ∈ lw_g := ⟨h_t8 31 rfl rfl, h_ins 111 rfl⟩
theorem dX12_readHeader_148 : decode cX12_readHeader 148 = .ok (.invokevirtual 91, 3) := by decide +kernel
theorem dX12_readHeader_151 : decode cX12_readHeader 151 = .ok (.istore 6, 2) := by decide +kernel
theorem dX12_readHeader_153 : decode cX12_readHeader 153 = .ok (.iload_n 2, 1) := by decide +kernel
theorem dX12_readHeader_154 : decode cX12_readHeader 154 = .ok (.istore 7, 2) := by decide +kernel
theorem dX12_readHeader_116 : decode cX12_readHeader 116 = .ok (.iload_n 2, 1) := by decide +kernel
theorem dX12_readHeader_117 : decode cX12_readHeader 117 = .ok (.aload_n 0, 1) := by decide +kernel
theorem dX12_readHeader_118 : decode cX12_readHeader 118 = .ok (.getfield 75, 3) := by decide +kernel
theorem dX12_readHeader_121 : decode cX12_readHeader 121 = .ok (.if_icmp .ge 73, 3) := by decide +kernel
theorem dX12_readHeader_124 : decode cX12_readHeader 124 = .ok (.aload_n 0, 1) := by decide +kernel
theorem dX12_readHeader_125 : decode cX12_readHeader 125 = .ok (.getfield 78, 3) := by decide +kernel
theorem dX12_readHeader_128 : decode cX12_readHeader 128 = .ok (.iload_n 2, 1) := by decide +kernel
theorem dX12_readHeader_129 : decode cX12_readHeader 129 = .ok (.iaload, 1) := by decide +kernel
theorem dX12_readHeader_130 : decode cX12_readHeader 130 = .ok (.bipush 32, 2) := by decide +kernel
theorem dX12_readHeader_132 : decode cX12_readHeader 132 = .ok (.if_icmp .eq 14, 3) := by decide +kernel
theorem dX12_readHeader_135 : decode cX12_readHeader 135 = .ok (.aload_n 0, 1) := by decide +kernel
theorem dX12_readHeader_136 : decode cX12_readHeader 136 = .ok (.getfield 78, 3) := by decide +kernel
theorem dX12_readHeader_139 : decode cX12_readHeader 139 = .ok (.iload_n 2, 1) := by decide +kernel
theorem dX12_readHeader_140 : decode cX12_readHeader 140 = .ok (.iaload, 1) := by decide +kernel
theorem dX12_readHeader_141 : decode cX12_readHeader 141 = .ok (.bipush 9, 2) := by decide +kernel
theorem dX12_readHeader_143 : decode cX12_readHeader 143 = .ok (.if_icmp .ne 51, 3) := by decide +kernel
theorem dX12_readHeader_81 : decode cX12_readHeader 81 = .ok (.iload 6, 2) := by decide +kernel
theorem dX12_readHeader_83 : decode cX12_readHeader 83 = .ok (.iload 4, 2) := by decide +kernel
theorem dX12_readHeader_85 : decode cX12_readHeader 85 = .ok (.if_icmp .ge 26, 3) := by decide +kernel
theorem dX12_readHeader_111 : decode cX12_readHeader 111 = .ok (.iload 4, 2) := by decide +kernel
theorem dX12_readHeader_113 : decode cX12_readHeader 113 = .ok (.iconst 2, 1) := by decide +kernel
theorem dX12_readHeader_114 : decode cX12_readHeader 114 = .ok (.iadd, 1) := by decide +kernel
theorem dX12_readHeader_115 : decode cX12_readHeader 115 = .ok (.istore_n 2, 1) := by decide +kernel
theorem dX12_readHeader_88 : decode cX12_readHeader 88 = .ok (.aload_n 0, 1) := by decide +kernel
theorem dX12_readHeader_89 : decode cX12_readHeader 89 = .ok (.getfield 101, 3) := by decide +kernel
theorem dX12_readHeader_92 : decode cX12_readHeader 92 = .ok (.iload_n 1, 1) := by decide +kernel
theorem dX12_readHeader_93 : decode cX12_readHeader 93 = .ok (.aload_n 0, 1) := by decide +kernel
theorem dX12_readHeader_94 : decode cX12_readHeader 94 = .ok (.getfield 78, 3) := by decide +kernel
theorem dX12_readHeader_97 : decode cX12_readHeader 97 = .ok (.iload 6, 2) := by decide +kernel
theorem dX12_readHeader_99 : decode cX12_readHeader 99 = .ok (.iaload, 1) := by decide +kernel
theorem dX12_readHeader_100 : decode cX12_readHeader 100 = .ok (.iastore, 1) := by decide +kernel
theorem dX12_readHeader_101 : decode cX12_readHeader 101 = .ok (.iload_n 1, 1) := by decide +kernel
theorem dX12_readHeader_102 : decode cX12_readHeader 102 = .ok (.iconst 1, 1) := by decide +kernel
theorem dX12_readHeader_103 : decode cX12_readHeader 103 = .ok (.iadd, 1) := by decide +kernel
theorem dX12_readHeader_104 : decode cX12_readHeader 104 = .ok (.istore_n 1, 1) := by decide +kernel
theorem dX12_readHeader_105 : decode cX12_readHeader 105 = .ok (.iinc 6 1, 3) := by decide +kernel
theorem dX12_readHeader_108 : decode cX12_readHeader 108 = .ok (.goto (-27), 3) := by decide +kernel
theorem dX12_readHeader_59 : decode cX12_readHeader 59 = .ok (.istore_n 3, 1) := by decide +kernel
theorem dX12_readHeader_60 : decode cX12_readHeader 60 = .ok (.iload_n 3, 1) := by decide +kernel
theorem dX12_readHeader_61 : decode cX12_readHeader 61 = .ok (.ifCond .ne 6, 3) := by decide +kernel
theorem dX12_readHeader_67 : decode cX12_readHeader 67 = .ok (.aload_n 0, 1) := by decide +kernel
theorem dX12_readHeader_68 : decode cX12_readHeader 68 = .ok (.getfield 98, 3) := by decide +kernel
theorem dX12_readHeader_71 : decode cX12_readHeader 71 = .ok (.aload_n 0, 1) := by decide +kernel
theorem dX12_readHeader_72 : decode cX12_readHeader 72 = .ok (.getfield 85, 3) := by decide +kernel
theorem dX12_readHeader_75 : decode cX12_readHeader 75 = .ok (.iload_n 1, 1) := by decide +kernel
theorem dX12_readHeader_76 : decode cX12_readHeader 76 = .ok (.iastore, 1) := by decide +kernel
theorem dX12_readHeader_77 : decode cX12_readHeader 77 = .ok (.iload 5, 2) := by decide +kernel
theorem dX12_readHeader_79 : decode cX12_readHeader 79 = .ok (.istore 6, 2) := by decide +kernel
theorem dX12_readHeader_64 : decode cX12_readHeader 64 = .ok (.goto 148, 3) := by decide +kernel
theorem dX12_readHeader_212 : decode cX12_readHeader 212 = .ok (.return_, 1) := by decide +kernel
theorem dX12_readHeader_47 : decode cX12_readHeader 47 = .ok (.istore 5, 2) := by decide +kernel
theorem dX12_readHeader_49 : decode cX12_readHeader 49 = .ok (.iload 5, 2) := by decide +kernel
theorem dX12_readHeader_51 : decode cX12_readHeader 51 = .ok (.ifCond .lt 7, 3) := by decide +kernel
theorem dX12_readHeader_58 : decode cX12_readHeader 58 = .ok (.iconst 0, 1) := by decide +kernel
theorem dX12_readHeader_54 : decode cX12_readHeader 54 = .ok (.iconst 1, 1) := by decide +kernel
theorem dX12_readHeader_55 : decode cX12_readHeader 55 = .ok (.goto 4, 3) := by decide +kernel
theorem dX12_readHeader_11 : decode cX12_readHeader 11 = .ok (.iload_n 3, 1) := by decide +kernel
theorem dX12_readHeader_12 : decode cX12_readHeader 12 = .ok (.ifCond .eq 200, 3) := by decide +kernel
theorem dX12_readHeader_15 : decode cX12_readHeader 15 = .ok (.iload_n 2, 1) := by decide +kernel
theorem dX12_readHeader_16 : decode cX12_readHeader 16 = .ok (.aload_n 0, 1) := by decide +kernel
theorem dX12_readHeader_17 : decode cX12_readHeader 17 = .ok (.getfield 75, 3) := by decide +kernel
theorem dX12_readHeader_20 : decode cX12_readHeader 20 = .ok (.if_icmp .ge 192, 3) := by decide +kernel
theorem dX12_readHeader_23 : decode cX12_readHeader 23 = .ok (.aload_n 0, 1) := by decide +kernel
theorem dX12_readHeader_24 : decode cX12_readHeader 24 = .ok (.iload_n 2, 1) := by decide +kernel
theorem dX12_readHeader_25 : decode cX12_readHeader 25 = .ok (.invokevirtual 91, 3) := by decide +kernel
theorem dX12_readHeader_28 : decode cX12_readHeader 28 = .ok (.istore 4, 2) := by decide +kernel
theorem dX12_readHeader_30 : decode cX12_readHeader 30 = .ok (.iload 4, 2) := by decide +kernel
theorem dX12_readHeader_32 : decode cX12_readHeader 32 = .ok (.iload_n 2, 1) := by decide +kernel
theorem dX12_readHeader_33 : decode cX12_readHeader 33 = .ok (.if_icmp .le 13, 3) := by decide +kernel
theorem dX12_readHeader_46 : decode cX12_readHeader 46 = .ok (.iconst (-1), 1) := by decide +kernel
theorem dX12_readHeader_36 : decode cX12_readHeader 36 = .ok (.aload_n 0, 1) := by decide +kernel
theorem dX12_readHeader_37 : decode cX12_readHeader 37 = .ok (.iload_n 2, 1) := by decide +kernel
theorem dX12_readHeader_38 : decode cX12_readHeader 38 = .ok (.iload 4, 2) := by decide +kernel
theorem kX12_fieldOf : h_ml mX12_fieldOf 2 := ⟨h_t8 36 rfl rfl, h_t1 16 rfl rfl, ⟨by decide, by decide, by decide +kernel⟩, by decide⟩
theorem lX12_95 : Cond.methodLink RX12 95 mX12_fieldOf.1 ∈ lw_g := h_t8 33 rfl rfl
theorem sX12_fieldOf : Cond.instanceMethod mX12_fieldOf.1 ∈ lw_g ∧ Cond.selects mX12_fieldOf.1.cls mX12_fieldOf.1 mX12_fieldOf.1 ∈ lw_g := ⟨h_t8 35 rfl rfl, h_ins 112 rfl⟩
theorem dX12_readHeader_40 : decode cX12_readHeader 40 = .ok (.invokevirtual 95, 3) := by decide +kernel
theorem dX12_readHeader_43 : decode cX12_readHeader 43 = .ok (.goto 4, 3) := by decide +kernel
theorem dX12_readHeader_0 : decode cX12_readHeader 0 = .ok (.aload_n 0, 1) := by decide +kernel
theorem dX12_readHeader_1 : decode cX12_readHeader 1 = .ok (.iconst 0, 1) := by decide +kernel
theorem dX12_readHeader_2 : decode cX12_readHeader 2 = .ok (.putfield 85, 3) := by decide +kernel
theorem dX12_readHeader_5 : decode cX12_readHeader 5 = .ok (.iconst 0, 1) := by decide +kernel
theorem dX12_readHeader_6 : decode cX12_readHeader 6 = .ok (.istore_n 1, 1) := by decide +kernel
theorem dX12_readHeader_7 : decode cX12_readHeader 7 = .ok (.iconst 0, 1) := by decide +kernel
theorem dX12_readHeader_8 : decode cX12_readHeader 8 = .ok (.istore_n 2, 1) := by decide +kernel
theorem dX12_readHeader_9 : decode cX12_readHeader 9 = .ok (.iconst 1, 1) := by decide +kernel
theorem dX12_readHeader_10 : decode cX12_readHeader 10 = .ok (.istore_n 3, 1) := by decide +kernel
def fb_X12_readHeader_194 (K11 : Int32 → Int32 → Bool → uS → Option uS) (x1 : Int32) (x2 : Int32) (b3 : Bool) (s : uS) : Option uS := (fn_X12_trim x1 s).bind fun s1 => K11 x1 x2 b3 (wI s1 1079 14 ((s1.I 1079 14) + 1))
set_option maxRecDepth 100000 in
set_option maxHeartbeats 4000000 in
theorem xb_X12_readHeader_194 {l : Launch} {D : va_G} {A : Nat → ClassId} {B : Nat} {Z : State → Heap → Prop} {vF : Value} (uk : uK B Z vF) {K11 : Int32 → Int32 → Bool → uS → Option uS} (hK11 : ∀ (x1 : Int32) (x2 : Int32) (b3 : Bool)  (s : uS) (r : uS), K11 x1 x2 b3 s = some r → GU l D A B Z mX12_readHeader 1 (r, none) s 11 [(0, .ref (B + 1079)), (1, .int x1), (2, .int x2), (3, .int (bI b3))] []) {x1 : Int32} {x2 : Int32} {b3 : Bool} {s : uS} {r : uS}  (h : fb_X12_readHeader_194 K11 x1 x2 b3 s = some r) : GU l D A B Z mX12_readHeader 1 (r, none) s 194 [(0, .ref (B + 1079)), (1, .int x1), (2, .int x2), (3, .int (bI b3))] [] := by
  unfold fb_X12_readHeader_194 at h
  refine uu_aload_n dX12_readHeader_194 rfl (List.mem_of_getElem? (i := 0) rfl) ?_
  refine uu_iload_n dX12_readHeader_195 rfl (List.mem_of_getElem? (i := 1) rfl) ?_
  obtain ⟨s1, e2, h⟩ := uu_ob h
  refine uu_cv (d1 := 0) (k := 1079) (ci := 12) (T := TX12) (N := 153) (As := [.int x1]) (st := []) (st' := []) (xc_X12_trim uk  e2) so_1079.is (by decide) rfl kX12_trim lX12_104 sX12_trim (by decide) (Nat.le_of_ble_eq_true rfl) dX12_readHeader_196 rfl ?_
  refine uu_aload_n dX12_readHeader_199 rfl (List.mem_of_getElem? (i := 0) rfl) ?_
  refine uu_aload_n dX12_readHeader_200 rfl (List.mem_of_getElem? (i := 0) rfl) ?_
  refine uu_geti (ci := 12) (N := 153) fX12_85 (by decide) so_1079.is (by decide) (by decide) dX12_readHeader_201 ?_
  refine uu_iconst (v := 1) dX12_readHeader_204 (by decide) ?_
  refine uu_iadd dX12_readHeader_205 ?_
  refine uu_puti (ft := .int) (ci := 12) (N := 153) fX12_85 ptX12 (Or.inl rfl) (by decide) so_1079.is (by decide) (by decide) (by decide +kernel) rfl rfl dX12_readHeader_206 ?_
  refine uu_goto (tgt := 11) dX12_readHeader_209 (by decide) ?_
  exact hK11 x1 x2 b3 _ _ h
def fb_X12_readHeader_156 (K11 : Int32 → Int32 → Bool → uS → Option uS) (K116 : Int32 → Int32 → Bool → uS → Option uS) (K156 : Int32 → Bool → Int32 → Int32 → uS → Option uS) (x1 : Int32) (b3 : Bool) (x6 : Int32) (x7 : Int32) (s : uS) : Option uS := if x6 ≤ x7 then (K116 x1 (x6 + 2) b3 s) else ((iget 20 s 1087 x7).bind fun v2 => (iput 20 s 1092 x1 v2).bind fun s4 => K156 (x1 + 1) b3 x6 (x7 + 1) s4)
set_option maxRecDepth 100000 in
set_option maxHeartbeats 4000000 in
theorem xb_X12_readHeader_156 {l : Launch} {D : va_G} {A : Nat → ClassId} {B : Nat} {Z : State → Heap → Prop} {vF : Value} (uk : uK B Z vF) {K11 : Int32 → Int32 → Bool → uS → Option uS} {K116 : Int32 → Int32 → Bool → uS → Option uS} {K156 : Int32 → Bool → Int32 → Int32 → uS → Option uS} (hK11 : ∀ (x1 : Int32) (x2 : Int32) (b3 : Bool)  (s : uS) (r : uS), K11 x1 x2 b3 s = some r → GU l D A B Z mX12_readHeader 1 (r, none) s 11 [(0, .ref (B + 1079)), (1, .int x1), (2, .int x2), (3, .int (bI b3))] []) (hK116 : ∀ (x1 : Int32) (x2 : Int32) (b3 : Bool)  (s : uS) (r : uS), K116 x1 x2 b3 s = some r → GU l D A B Z mX12_readHeader 1 (r, none) s 116 [(0, .ref (B + 1079)), (1, .int x1), (2, .int x2), (3, .int (bI b3))] []) (hK156 : ∀ (x1 : Int32) (b3 : Bool) (x6 : Int32) (x7 : Int32)  (s : uS) (r : uS), K156 x1 b3 x6 x7 s = some r → GU l D A B Z mX12_readHeader 1 (r, none) s 156 [(0, .ref (B + 1079)), (1, .int x1), (3, .int (bI b3)), (6, .int x6), (7, .int x7)] []) {x1 : Int32} {b3 : Bool} {x6 : Int32} {x7 : Int32} {s : uS} {r : uS}  (h : fb_X12_readHeader_156 K11 K116 K156 x1 b3 x6 x7 s = some r) : GU l D A B Z mX12_readHeader 1 (r, none) s 156 [(0, .ref (B + 1079)), (1, .int x1), (3, .int (bI b3)), (6, .int x6), (7, .int x7)] [] := by
  unfold fb_X12_readHeader_156 at h
  refine uu_iload dX12_readHeader_156 (List.mem_of_getElem? (i := 4) rfl) ?_
  refine uu_iload dX12_readHeader_158 (List.mem_of_getElem? (i := 3) rfl) ?_
  refine uu_icmp_ge (tgt := 186) dX12_readHeader_160 (by decide) (fun c1 => ?_) (fun c1 => ?_)
  · replace h := uu_pos c1 h
    refine uu_iload dX12_readHeader_186 (List.mem_of_getElem? (i := 3) rfl) ?_
    refine uu_iconst (v := 2) dX12_readHeader_188 (by decide) ?_
    refine uu_iadd dX12_readHeader_189 ?_
    refine uu_istore_n dX12_readHeader_190 rfl (by decide) rfl ?_
    refine uu_goto (tgt := 116) dX12_readHeader_191 (by decide) ?_
    refine uu_lv [1, 2, 0, 3] (lv' := [(0, .ref (B + 1079)), (1, .int x1), (2, .int (x6 + 2)), (3, .int (bI b3))]) rfl ?_
    exact hK116 x1 (x6 + 2) b3 _ _ h
  · replace h := uu_neg c1 h
    refine uu_aload_n dX12_readHeader_163 rfl (List.mem_of_getElem? (i := 0) rfl) ?_
    refine uu_geta (ci := 12) (N := 153) fX12_101 (by decide) so_1079.is (by decide) (c := 1092) (by decide) dX12_readHeader_164 ?_
    refine uu_iload_n dX12_readHeader_167 rfl (List.mem_of_getElem? (i := 1) rfl) ?_
    refine uu_aload_n dX12_readHeader_168 rfl (List.mem_of_getElem? (i := 0) rfl) ?_
    refine uu_geta (ci := 12) (N := 153) fX12_78 (by decide) so_1079.is (by decide) (c := 1087) (by decide) dX12_readHeader_169 ?_
    refine uu_iload dX12_readHeader_172 (List.mem_of_getElem? (i := 4) rfl) ?_
    obtain ⟨v2, e3, h⟩ := uu_ob h
    refine uu_iald e3 dX12_readHeader_174 ?_
    obtain ⟨s4, e5, h⟩ := uu_ob h
    refine uu_iast e5 dX12_readHeader_175 ?_
    refine uu_iload_n dX12_readHeader_176 rfl (List.mem_of_getElem? (i := 1) rfl) ?_
    refine uu_iconst (v := 1) dX12_readHeader_177 (by decide) ?_
    refine uu_iadd dX12_readHeader_178 ?_
    refine uu_istore_n dX12_readHeader_179 rfl (by decide) rfl ?_
    refine uu_iinc (v := x7 + 1) dX12_readHeader_180 (k := 4) rfl rfl (by decide) rfl ?_
    refine uu_goto (tgt := 156) dX12_readHeader_183 (by decide) ?_
    refine uu_lv [2, 1, 3, 4, 0] (lv' := [(0, .ref (B + 1079)), (1, .int (x1 + 1)), (3, .int (bI b3)), (6, .int x6), (7, .int (x7 + 1))]) rfl ?_
    exact hK156 (x1 + 1) b3 x6 (x7 + 1) _ _ h
def fn_X12_readHeader_156 (K11 : Int32 → Int32 → Bool → uS → Option uS) (K116 : Int32 → Int32 → Bool → uS → Option uS) : Nat → Int32 → Bool → Int32 → Int32 → uS → Option uS
  | 0 => fun _ _ _ _ _ => none
  | n + 1 => fb_X12_readHeader_156 K11 K116 (fn_X12_readHeader_156 K11 K116 n)
set_option maxRecDepth 100000 in
set_option maxHeartbeats 4000000 in
theorem xn_X12_readHeader_156 {l : Launch} {D : va_G} {A : Nat → ClassId} {B : Nat} {Z : State → Heap → Prop} {vF : Value} (uk : uK B Z vF) {K11 : Int32 → Int32 → Bool → uS → Option uS} {K116 : Int32 → Int32 → Bool → uS → Option uS} (hK11 : ∀ (x1 : Int32) (x2 : Int32) (b3 : Bool)  (s : uS) (r : uS), K11 x1 x2 b3 s = some r → GU l D A B Z mX12_readHeader 1 (r, none) s 11 [(0, .ref (B + 1079)), (1, .int x1), (2, .int x2), (3, .int (bI b3))] []) (hK116 : ∀ (x1 : Int32) (x2 : Int32) (b3 : Bool)  (s : uS) (r : uS), K116 x1 x2 b3 s = some r → GU l D A B Z mX12_readHeader 1 (r, none) s 116 [(0, .ref (B + 1079)), (1, .int x1), (2, .int x2), (3, .int (bI b3))] []) : ∀ (n : Nat) (x1 : Int32) (b3 : Bool) (x6 : Int32) (x7 : Int32)  (s : uS) (r : uS), fn_X12_readHeader_156 K11 K116 n x1 b3 x6 x7 s = some r → GU l D A B Z mX12_readHeader 1 (r, none) s 156 [(0, .ref (B + 1079)), (1, .int x1), (3, .int (bI b3)), (6, .int x6), (7, .int x7)] [] := by
  intro n
  induction n with
  | zero => intro x1 b3 x6 x7 s r h
            cases h
  | succ n ih => intro x1 b3 x6 x7 s r h
                 exact xb_X12_readHeader_156 uk hK11 hK116 ih  h
def fb_X12_readHeader_146 (K11 : Int32 → Int32 → Bool → uS → Option uS) (K116 : Int32 → Int32 → Bool → uS → Option uS) (x1 : Int32) (x2 : Int32) (b3 : Bool) (s : uS) : Option uS := (fn_X12_lineEnd x2 s).bind fun v1 => fn_X12_readHeader_156 K11 K116 uFu x1 b3 v1 x2 s
set_option maxRecDepth 100000 in
set_option maxHeartbeats 4000000 in
theorem xb_X12_readHeader_146 {l : Launch} {D : va_G} {A : Nat → ClassId} {B : Nat} {Z : State → Heap → Prop} {vF : Value} (uk : uK B Z vF) {K11 : Int32 → Int32 → Bool → uS → Option uS} {K116 : Int32 → Int32 → Bool → uS → Option uS} (hK11 : ∀ (x1 : Int32) (x2 : Int32) (b3 : Bool)  (s : uS) (r : uS), K11 x1 x2 b3 s = some r → GU l D A B Z mX12_readHeader 1 (r, none) s 11 [(0, .ref (B + 1079)), (1, .int x1), (2, .int x2), (3, .int (bI b3))] []) (hK116 : ∀ (x1 : Int32) (x2 : Int32) (b3 : Bool)  (s : uS) (r : uS), K116 x1 x2 b3 s = some r → GU l D A B Z mX12_readHeader 1 (r, none) s 116 [(0, .ref (B + 1079)), (1, .int x1), (2, .int x2), (3, .int (bI b3))] []) {x1 : Int32} {x2 : Int32} {b3 : Bool} {s : uS} {r : uS}  (h : fb_X12_readHeader_146 K11 K116 x1 x2 b3 s = some r) : GU l D A B Z mX12_readHeader 1 (r, none) s 146 [(0, .ref (B + 1079)), (1, .int x1), (2, .int x2), (3, .int (bI b3))] [] := by
  unfold fb_X12_readHeader_146 at h
  refine uu_aload_n dX12_readHeader_146 rfl (List.mem_of_getElem? (i := 0) rfl) ?_
  refine uu_iload_n dX12_readHeader_147 rfl (List.mem_of_getElem? (i := 2) rfl) ?_
  obtain ⟨v1, e2, h⟩ := uu_ob h
  refine uu_cv (d1 := 0) (k := 1079) (ci := 12) (T := TX12) (N := 153) (As := [.int x2]) (st := []) (st' := [.int v1]) (xc_X12_lineEnd uk  e2) so_1079.is (by decide) rfl kX12_lineEnd lX12_91 sX12_lineEnd (by decide) (Nat.le_of_ble_eq_true rfl) dX12_readHeader_148 rfl ?_
  refine uu_istore dX12_readHeader_151 (by decide) rfl ?_
  refine uu_iload_n dX12_readHeader_153 rfl (List.mem_of_getElem? (i := 3) rfl) ?_
  refine uu_istore dX12_readHeader_154 (by decide) rfl ?_
  refine uu_lv [2, 3, 5, 1, 0] (lv' := [(0, .ref (B + 1079)), (1, .int x1), (3, .int (bI b3)), (6, .int v1), (7, .int x2)]) rfl ?_
  exact xn_X12_readHeader_156 uk hK11 hK116 _ _ _ _ _ _ _ h
def fb_X12_readHeader_116 (K11 : Int32 → Int32 → Bool → uS → Option uS) (K116 : Int32 → Int32 → Bool → uS → Option uS) (x1 : Int32) (x2 : Int32) (b3 : Bool) (s : uS) : Option uS := if (s.I 1079 13) ≤ x2 then (fb_X12_readHeader_194 K11 x1 x2 b3 s) else ((iget 20 s 1087 x2).bind fun v2 => if v2 = 32 then (fb_X12_readHeader_146 K11 K116 x1 x2 b3 s) else ((iget 20 s 1087 x2).bind fun v5 => if v5 = 9 then (fb_X12_readHeader_146 K11 K116 x1 x2 b3 s) else (fb_X12_readHeader_194 K11 x1 x2 b3 s)))
set_option maxRecDepth 100000 in
set_option maxHeartbeats 4000000 in
theorem xb_X12_readHeader_116 {l : Launch} {D : va_G} {A : Nat → ClassId} {B : Nat} {Z : State → Heap → Prop} {vF : Value} (uk : uK B Z vF) {K11 : Int32 → Int32 → Bool → uS → Option uS} {K116 : Int32 → Int32 → Bool → uS → Option uS} (hK11 : ∀ (x1 : Int32) (x2 : Int32) (b3 : Bool)  (s : uS) (r : uS), K11 x1 x2 b3 s = some r → GU l D A B Z mX12_readHeader 1 (r, none) s 11 [(0, .ref (B + 1079)), (1, .int x1), (2, .int x2), (3, .int (bI b3))] []) (hK116 : ∀ (x1 : Int32) (x2 : Int32) (b3 : Bool)  (s : uS) (r : uS), K116 x1 x2 b3 s = some r → GU l D A B Z mX12_readHeader 1 (r, none) s 116 [(0, .ref (B + 1079)), (1, .int x1), (2, .int x2), (3, .int (bI b3))] []) {x1 : Int32} {x2 : Int32} {b3 : Bool} {s : uS} {r : uS}  (h : fb_X12_readHeader_116 K11 K116 x1 x2 b3 s = some r) : GU l D A B Z mX12_readHeader 1 (r, none) s 116 [(0, .ref (B + 1079)), (1, .int x1), (2, .int x2), (3, .int (bI b3))] [] := by
  unfold fb_X12_readHeader_116 at h
  refine uu_iload_n dX12_readHeader_116 rfl (List.mem_of_getElem? (i := 2) rfl) ?_
  refine uu_aload_n dX12_readHeader_117 rfl (List.mem_of_getElem? (i := 0) rfl) ?_
  refine uu_geti (ci := 12) (N := 153) fX12_75 (by decide) so_1079.is (by decide) (by decide) dX12_readHeader_118 ?_
  refine uu_icmp_ge (tgt := 194) dX12_readHeader_121 (by decide) (fun c1 => ?_) (fun c1 => ?_)
  · replace h := uu_pos c1 h
    exact xb_X12_readHeader_194 uk hK11 h
  · replace h := uu_neg c1 h
    refine uu_aload_n dX12_readHeader_124 rfl (List.mem_of_getElem? (i := 0) rfl) ?_
    refine uu_geta (ci := 12) (N := 153) fX12_78 (by decide) so_1079.is (by decide) (c := 1087) (by decide) dX12_readHeader_125 ?_
    refine uu_iload_n dX12_readHeader_128 rfl (List.mem_of_getElem? (i := 2) rfl) ?_
    obtain ⟨v2, e3, h⟩ := uu_ob h
    refine uu_iald e3 dX12_readHeader_129 ?_
    refine uu_bipush (v := 32) dX12_readHeader_130 (by decide) ?_
    refine uu_icmp_eq (tgt := 146) dX12_readHeader_132 (by decide) (fun c4 => ?_) (fun c4 => ?_)
    · replace h := uu_pos c4 h
      exact xb_X12_readHeader_146 uk hK11 hK116 h
    · replace h := uu_neg c4 h
      refine uu_aload_n dX12_readHeader_135 rfl (List.mem_of_getElem? (i := 0) rfl) ?_
      refine uu_geta (ci := 12) (N := 153) fX12_78 (by decide) so_1079.is (by decide) (c := 1087) (by decide) dX12_readHeader_136 ?_
      refine uu_iload_n dX12_readHeader_139 rfl (List.mem_of_getElem? (i := 2) rfl) ?_
      obtain ⟨v5, e6, h⟩ := uu_ob h
      refine uu_iald e6 dX12_readHeader_140 ?_
      refine uu_bipush (v := 9) dX12_readHeader_141 (by decide) ?_
      refine uu_icmp_ne (tgt := 194) dX12_readHeader_143 (by decide) (fun c7 => ?_) (fun c7 => ?_)
      · replace h := uu_neg c7 h
        exact xb_X12_readHeader_194 uk hK11 h
      · replace h := uu_pos c7 h
        exact xb_X12_readHeader_146 uk hK11 hK116 h
def fn_X12_readHeader_116 (K11 : Int32 → Int32 → Bool → uS → Option uS) : Nat → Int32 → Int32 → Bool → uS → Option uS
  | 0 => fun _ _ _ _ => none
  | n + 1 => fb_X12_readHeader_116 K11 (fn_X12_readHeader_116 K11 n)
set_option maxRecDepth 100000 in
set_option maxHeartbeats 4000000 in
theorem xn_X12_readHeader_116 {l : Launch} {D : va_G} {A : Nat → ClassId} {B : Nat} {Z : State → Heap → Prop} {vF : Value} (uk : uK B Z vF) {K11 : Int32 → Int32 → Bool → uS → Option uS} (hK11 : ∀ (x1 : Int32) (x2 : Int32) (b3 : Bool)  (s : uS) (r : uS), K11 x1 x2 b3 s = some r → GU l D A B Z mX12_readHeader 1 (r, none) s 11 [(0, .ref (B + 1079)), (1, .int x1), (2, .int x2), (3, .int (bI b3))] []) : ∀ (n : Nat) (x1 : Int32) (x2 : Int32) (b3 : Bool)  (s : uS) (r : uS), fn_X12_readHeader_116 K11 n x1 x2 b3 s = some r → GU l D A B Z mX12_readHeader 1 (r, none) s 116 [(0, .ref (B + 1079)), (1, .int x1), (2, .int x2), (3, .int (bI b3))] [] := by
  intro n
  induction n with
  | zero => intro x1 x2 b3 s r h
            cases h
  | succ n ih => intro x1 x2 b3 s r h
                 exact xb_X12_readHeader_116 uk hK11 ih  h
def fb_X12_readHeader_81 (K11 : Int32 → Int32 → Bool → uS → Option uS) (K81 : Int32 → Bool → Int32 → Int32 → uS → Option uS) (x1 : Int32) (b3 : Bool) (x4 : Int32) (x6 : Int32) (s : uS) : Option uS := if x4 ≤ x6 then (fn_X12_readHeader_116 K11 uFu x1 (x4 + 2) b3 s) else ((iget 20 s 1087 x6).bind fun v2 => (iput 20 s 1092 x1 v2).bind fun s4 => K81 (x1 + 1) b3 x4 (x6 + 1) s4)
set_option maxRecDepth 100000 in
set_option maxHeartbeats 4000000 in
theorem xb_X12_readHeader_81 {l : Launch} {D : va_G} {A : Nat → ClassId} {B : Nat} {Z : State → Heap → Prop} {vF : Value} (uk : uK B Z vF) {K11 : Int32 → Int32 → Bool → uS → Option uS} {K81 : Int32 → Bool → Int32 → Int32 → uS → Option uS} (hK11 : ∀ (x1 : Int32) (x2 : Int32) (b3 : Bool)  (s : uS) (r : uS), K11 x1 x2 b3 s = some r → GU l D A B Z mX12_readHeader 1 (r, none) s 11 [(0, .ref (B + 1079)), (1, .int x1), (2, .int x2), (3, .int (bI b3))] []) (hK81 : ∀ (x1 : Int32) (b3 : Bool) (x4 : Int32) (x6 : Int32)  (s : uS) (r : uS), K81 x1 b3 x4 x6 s = some r → GU l D A B Z mX12_readHeader 1 (r, none) s 81 [(0, .ref (B + 1079)), (1, .int x1), (3, .int (bI b3)), (4, .int x4), (6, .int x6)] []) {x1 : Int32} {b3 : Bool} {x4 : Int32} {x6 : Int32} {s : uS} {r : uS}  (h : fb_X12_readHeader_81 K11 K81 x1 b3 x4 x6 s = some r) : GU l D A B Z mX12_readHeader 1 (r, none) s 81 [(0, .ref (B + 1079)), (1, .int x1), (3, .int (bI b3)), (4, .int x4), (6, .int x6)] [] := by
  unfold fb_X12_readHeader_81 at h
  refine uu_iload dX12_readHeader_81 (List.mem_of_getElem? (i := 4) rfl) ?_
  refine uu_iload dX12_readHeader_83 (List.mem_of_getElem? (i := 3) rfl) ?_
  refine uu_icmp_ge (tgt := 111) dX12_readHeader_85 (by decide) (fun c1 => ?_) (fun c1 => ?_)
  · replace h := uu_pos c1 h
    refine uu_iload dX12_readHeader_111 (List.mem_of_getElem? (i := 3) rfl) ?_
    refine uu_iconst (v := 2) dX12_readHeader_113 (by decide) ?_
    refine uu_iadd dX12_readHeader_114 ?_
    refine uu_istore_n dX12_readHeader_115 rfl (by decide) rfl ?_
    refine uu_lv [1, 2, 0, 3] (lv' := [(0, .ref (B + 1079)), (1, .int x1), (2, .int (x4 + 2)), (3, .int (bI b3))]) rfl ?_
    exact xn_X12_readHeader_116 uk hK11 _ _ _ _ _ _ h
  · replace h := uu_neg c1 h
    refine uu_aload_n dX12_readHeader_88 rfl (List.mem_of_getElem? (i := 0) rfl) ?_
    refine uu_geta (ci := 12) (N := 153) fX12_101 (by decide) so_1079.is (by decide) (c := 1092) (by decide) dX12_readHeader_89 ?_
    refine uu_iload_n dX12_readHeader_92 rfl (List.mem_of_getElem? (i := 1) rfl) ?_
    refine uu_aload_n dX12_readHeader_93 rfl (List.mem_of_getElem? (i := 0) rfl) ?_
    refine uu_geta (ci := 12) (N := 153) fX12_78 (by decide) so_1079.is (by decide) (c := 1087) (by decide) dX12_readHeader_94 ?_
    refine uu_iload dX12_readHeader_97 (List.mem_of_getElem? (i := 4) rfl) ?_
    obtain ⟨v2, e3, h⟩ := uu_ob h
    refine uu_iald e3 dX12_readHeader_99 ?_
    obtain ⟨s4, e5, h⟩ := uu_ob h
    refine uu_iast e5 dX12_readHeader_100 ?_
    refine uu_iload_n dX12_readHeader_101 rfl (List.mem_of_getElem? (i := 1) rfl) ?_
    refine uu_iconst (v := 1) dX12_readHeader_102 (by decide) ?_
    refine uu_iadd dX12_readHeader_103 ?_
    refine uu_istore_n dX12_readHeader_104 rfl (by decide) rfl ?_
    refine uu_iinc (v := x6 + 1) dX12_readHeader_105 (k := 4) rfl rfl (by decide) rfl ?_
    refine uu_goto (tgt := 81) dX12_readHeader_108 (by decide) ?_
    refine uu_lv [2, 1, 3, 4, 0] (lv' := [(0, .ref (B + 1079)), (1, .int (x1 + 1)), (3, .int (bI b3)), (4, .int x4), (6, .int (x6 + 1))]) rfl ?_
    exact hK81 (x1 + 1) b3 x4 (x6 + 1) _ _ h
def fn_X12_readHeader_81 (K11 : Int32 → Int32 → Bool → uS → Option uS) : Nat → Int32 → Bool → Int32 → Int32 → uS → Option uS
  | 0 => fun _ _ _ _ _ => none
  | n + 1 => fb_X12_readHeader_81 K11 (fn_X12_readHeader_81 K11 n)
set_option maxRecDepth 100000 in
set_option maxHeartbeats 4000000 in
theorem xn_X12_readHeader_81 {l : Launch} {D : va_G} {A : Nat → ClassId} {B : Nat} {Z : State → Heap → Prop} {vF : Value} (uk : uK B Z vF) {K11 : Int32 → Int32 → Bool → uS → Option uS} (hK11 : ∀ (x1 : Int32) (x2 : Int32) (b3 : Bool)  (s : uS) (r : uS), K11 x1 x2 b3 s = some r → GU l D A B Z mX12_readHeader 1 (r, none) s 11 [(0, .ref (B + 1079)), (1, .int x1), (2, .int x2), (3, .int (bI b3))] []) : ∀ (n : Nat) (x1 : Int32) (b3 : Bool) (x4 : Int32) (x6 : Int32)  (s : uS) (r : uS), fn_X12_readHeader_81 K11 n x1 b3 x4 x6 s = some r → GU l D A B Z mX12_readHeader 1 (r, none) s 81 [(0, .ref (B + 1079)), (1, .int x1), (3, .int (bI b3)), (4, .int x4), (6, .int x6)] [] := by
  intro n
  induction n with
  | zero => intro x1 b3 x4 x6 s r h
            cases h
  | succ n ih => intro x1 b3 x4 x6 s r h
                 exact xb_X12_readHeader_81 uk hK11 ih  h
def fb_X12_readHeader_59 (K11 : Int32 → Int32 → Bool → uS → Option uS) (x1 : Int32) (x4 : Int32) (x5 : Int32) (bs0 : Bool) (s : uS) : Option uS := if bs0 = true then ((iput 20 s 1090 (s.I 1079 14) x1).bind fun s2 => fn_X12_readHeader_81 K11 uFu x1 bs0 x4 x5 s2) else (some s)
set_option maxRecDepth 100000 in
set_option maxHeartbeats 4000000 in
theorem xb_X12_readHeader_59 {l : Launch} {D : va_G} {A : Nat → ClassId} {B : Nat} {Z : State → Heap → Prop} {vF : Value} (uk : uK B Z vF) {K11 : Int32 → Int32 → Bool → uS → Option uS} (hK11 : ∀ (x1 : Int32) (x2 : Int32) (b3 : Bool)  (s : uS) (r : uS), K11 x1 x2 b3 s = some r → GU l D A B Z mX12_readHeader 1 (r, none) s 11 [(0, .ref (B + 1079)), (1, .int x1), (2, .int x2), (3, .int (bI b3))] []) {x1 : Int32} {x4 : Int32} {x5 : Int32} {bs0 : Bool} {s : uS} {r : uS}  (h : fb_X12_readHeader_59 K11 x1 x4 x5 bs0 s = some r) : GU l D A B Z mX12_readHeader 1 (r, none) s 59 [(0, .ref (B + 1079)), (1, .int x1), (4, .int x4), (5, .int x5)] [.int (bI bs0)] := by
  unfold fb_X12_readHeader_59 at h
  refine uu_istore_n dX12_readHeader_59 rfl (by decide) rfl ?_
  refine uu_iload_n dX12_readHeader_60 rfl (List.mem_of_getElem? (i := 0) rfl) ?_
  refine uu_ifb_ne (tgt := 67) dX12_readHeader_61 (by decide) (fun c1 => ?_) (fun c1 => ?_)
  · replace h := uu_pos c1 h
    refine uu_aload_n dX12_readHeader_67 rfl (List.mem_of_getElem? (i := 1) rfl) ?_
    refine uu_geta (ci := 12) (N := 153) fX12_98 (by decide) so_1079.is (by decide) (c := 1090) (by decide) dX12_readHeader_68 ?_
    refine uu_aload_n dX12_readHeader_71 rfl (List.mem_of_getElem? (i := 1) rfl) ?_
    refine uu_geti (ci := 12) (N := 153) fX12_85 (by decide) so_1079.is (by decide) (by decide) dX12_readHeader_72 ?_
    refine uu_iload_n dX12_readHeader_75 rfl (List.mem_of_getElem? (i := 2) rfl) ?_
    obtain ⟨s2, e3, h⟩ := uu_ob h
    refine uu_iast e3 dX12_readHeader_76 ?_
    refine uu_iload dX12_readHeader_77 (List.mem_of_getElem? (i := 4) rfl) ?_
    refine uu_istore dX12_readHeader_79 (by decide) rfl ?_
    refine uu_lv [2, 3, 1, 4, 0] (lv' := [(0, .ref (B + 1079)), (1, .int x1), (3, .int (bI bs0)), (4, .int x4), (6, .int x5)]) rfl ?_
    exact xn_X12_readHeader_81 uk hK11 _ _ _ _ _ _ _ h
  · replace h := uu_neg c1 h
    refine uu_goto (tgt := 212) dX12_readHeader_64 (by decide) ?_
    have hr := Option.some.inj h
    subst hr
    exact uu_vret rfl dX12_readHeader_212
def fb_X12_readHeader_47 (K11 : Int32 → Int32 → Bool → uS → Option uS) (x1 : Int32) (x4 : Int32) (xs0 : Int32) (s : uS) : Option uS := if xs0 < 0 then (fb_X12_readHeader_59 K11 x1 x4 xs0 false s) else (fb_X12_readHeader_59 K11 x1 x4 xs0 true s)
set_option maxRecDepth 100000 in
set_option maxHeartbeats 4000000 in
theorem xb_X12_readHeader_47 {l : Launch} {D : va_G} {A : Nat → ClassId} {B : Nat} {Z : State → Heap → Prop} {vF : Value} (uk : uK B Z vF) {K11 : Int32 → Int32 → Bool → uS → Option uS} (hK11 : ∀ (x1 : Int32) (x2 : Int32) (b3 : Bool)  (s : uS) (r : uS), K11 x1 x2 b3 s = some r → GU l D A B Z mX12_readHeader 1 (r, none) s 11 [(0, .ref (B + 1079)), (1, .int x1), (2, .int x2), (3, .int (bI b3))] []) {x1 : Int32} {x4 : Int32} {xs0 : Int32} {s : uS} {r : uS}  (h : fb_X12_readHeader_47 K11 x1 x4 xs0 s = some r) : GU l D A B Z mX12_readHeader 1 (r, none) s 47 [(0, .ref (B + 1079)), (1, .int x1), (4, .int x4)] [.int xs0] := by
  unfold fb_X12_readHeader_47 at h
  refine uu_istore dX12_readHeader_47 (by decide) rfl ?_
  refine uu_iload dX12_readHeader_49 (List.mem_of_getElem? (i := 0) rfl) ?_
  refine uu_if_lt (tgt := 58) dX12_readHeader_51 (by decide) (fun c1 => ?_) (fun c1 => ?_)
  · replace h := uu_pos c1 h
    refine uu_iconst (v := 0) dX12_readHeader_58 (by decide) ?_
    refine uu_lv [1, 2, 3, 0] (lv' := [(0, .ref (B + 1079)), (1, .int x1), (4, .int x4), (5, .int xs0)]) rfl ?_
    exact xb_X12_readHeader_59 uk hK11 h
  · replace h := uu_neg c1 h
    refine uu_iconst (v := 1) dX12_readHeader_54 (by decide) ?_
    refine uu_goto (tgt := 59) dX12_readHeader_55 (by decide) ?_
    refine uu_lv [1, 2, 3, 0] (lv' := [(0, .ref (B + 1079)), (1, .int x1), (4, .int x4), (5, .int xs0)]) rfl ?_
    exact xb_X12_readHeader_59 uk hK11 h
def fb_X12_readHeader_11 (K11 : Int32 → Int32 → Bool → uS → Option uS) (x1 : Int32) (x2 : Int32) (b3 : Bool) (s : uS) : Option uS := if b3 = true then (if (s.I 1079 13) ≤ x2 then (some s) else ((fn_X12_lineEnd x2 s).bind fun v3 => if v3 ≤ x2 then (fb_X12_readHeader_47 K11 x1 v3 (-1) s) else ((fn_X12_fieldOf x2 v3 s).bind fun r6 => fb_X12_readHeader_47 K11 x1 v3 r6.2 r6.1))) else (some s)
set_option maxRecDepth 100000 in
set_option maxHeartbeats 4000000 in
theorem xb_X12_readHeader_11 {l : Launch} {D : va_G} {A : Nat → ClassId} {B : Nat} {Z : State → Heap → Prop} {vF : Value} (uk : uK B Z vF) {K11 : Int32 → Int32 → Bool → uS → Option uS} (hK11 : ∀ (x1 : Int32) (x2 : Int32) (b3 : Bool)  (s : uS) (r : uS), K11 x1 x2 b3 s = some r → GU l D A B Z mX12_readHeader 1 (r, none) s 11 [(0, .ref (B + 1079)), (1, .int x1), (2, .int x2), (3, .int (bI b3))] []) {x1 : Int32} {x2 : Int32} {b3 : Bool} {s : uS} {r : uS}  (h : fb_X12_readHeader_11 K11 x1 x2 b3 s = some r) : GU l D A B Z mX12_readHeader 1 (r, none) s 11 [(0, .ref (B + 1079)), (1, .int x1), (2, .int x2), (3, .int (bI b3))] [] := by
  unfold fb_X12_readHeader_11 at h
  refine uu_iload_n dX12_readHeader_11 rfl (List.mem_of_getElem? (i := 3) rfl) ?_
  refine uu_ifb_eq (tgt := 212) dX12_readHeader_12 (by decide) (fun c1 => ?_) (fun c1 => ?_)
  · replace h := uu_neg c1 h
    have hr := Option.some.inj h
    subst hr
    exact uu_vret rfl dX12_readHeader_212
  · replace h := uu_pos c1 h
    refine uu_iload_n dX12_readHeader_15 rfl (List.mem_of_getElem? (i := 2) rfl) ?_
    refine uu_aload_n dX12_readHeader_16 rfl (List.mem_of_getElem? (i := 0) rfl) ?_
    refine uu_geti (ci := 12) (N := 153) fX12_75 (by decide) so_1079.is (by decide) (by decide) dX12_readHeader_17 ?_
    refine uu_icmp_ge (tgt := 212) dX12_readHeader_20 (by decide) (fun c2 => ?_) (fun c2 => ?_)
    · replace h := uu_pos c2 h
      have hr := Option.some.inj h
      subst hr
      exact uu_vret rfl dX12_readHeader_212
    · replace h := uu_neg c2 h
      refine uu_aload_n dX12_readHeader_23 rfl (List.mem_of_getElem? (i := 0) rfl) ?_
      refine uu_iload_n dX12_readHeader_24 rfl (List.mem_of_getElem? (i := 2) rfl) ?_
      obtain ⟨v3, e4, h⟩ := uu_ob h
      refine uu_cv (d1 := 0) (k := 1079) (ci := 12) (T := TX12) (N := 153) (As := [.int x2]) (st := []) (st' := [.int v3]) (xc_X12_lineEnd uk  e4) so_1079.is (by decide) rfl kX12_lineEnd lX12_91 sX12_lineEnd (by decide) (Nat.le_of_ble_eq_true rfl) dX12_readHeader_25 rfl ?_
      refine uu_istore dX12_readHeader_28 (by decide) rfl ?_
      refine uu_iload dX12_readHeader_30 (List.mem_of_getElem? (i := 0) rfl) ?_
      refine uu_iload_n dX12_readHeader_32 rfl (List.mem_of_getElem? (i := 3) rfl) ?_
      refine uu_icmp_le (tgt := 46) dX12_readHeader_33 (by decide) (fun c5 => ?_) (fun c5 => ?_)
      · replace h := uu_pos c5 h
        refine uu_iconst (v := -1) dX12_readHeader_46 (by decide) ?_
        refine uu_lv [1, 2, 0] (lv' := [(0, .ref (B + 1079)), (1, .int x1), (4, .int v3)]) rfl ?_
        exact xb_X12_readHeader_47 uk hK11 h
      · replace h := uu_neg c5 h
        refine uu_aload_n dX12_readHeader_36 rfl (List.mem_of_getElem? (i := 1) rfl) ?_
        refine uu_iload_n dX12_readHeader_37 rfl (List.mem_of_getElem? (i := 3) rfl) ?_
        refine uu_iload dX12_readHeader_38 (List.mem_of_getElem? (i := 0) rfl) ?_
        obtain ⟨r6, e7, h⟩ := uu_ob h
        refine uu_cv (d1 := 0) (k := 1079) (ci := 12) (T := TX12) (N := 153) (As := [.int x2, .int v3]) (st := []) (st' := [.int r6.2]) (xc_X12_fieldOf uk  e7) so_1079.is (by decide) rfl kX12_fieldOf lX12_95 sX12_fieldOf (by decide) (Nat.le_of_ble_eq_true rfl) dX12_readHeader_40 rfl ?_
        refine uu_goto (tgt := 47) dX12_readHeader_43 (by decide) ?_
        refine uu_lv [1, 2, 0] (lv' := [(0, .ref (B + 1079)), (1, .int x1), (4, .int v3)]) rfl ?_
        exact xb_X12_readHeader_47 uk hK11 h
def fn_X12_readHeader_11  : Nat → Int32 → Int32 → Bool → uS → Option uS
  | 0 => fun _ _ _ _ => none
  | n + 1 => fb_X12_readHeader_11 (fn_X12_readHeader_11  n)
set_option maxRecDepth 100000 in
set_option maxHeartbeats 4000000 in
theorem xn_X12_readHeader_11 {l : Launch} {D : va_G} {A : Nat → ClassId} {B : Nat} {Z : State → Heap → Prop} {vF : Value} (uk : uK B Z vF)   : ∀ (n : Nat) (x1 : Int32) (x2 : Int32) (b3 : Bool)  (s : uS) (r : uS), fn_X12_readHeader_11  n x1 x2 b3 s = some r → GU l D A B Z mX12_readHeader 1 (r, none) s 11 [(0, .ref (B + 1079)), (1, .int x1), (2, .int x2), (3, .int (bI b3))] [] := by
  intro n
  induction n with
  | zero => intro x1 x2 b3 s r h
            cases h
  | succ n ih => intro x1 x2 b3 s r h
                 exact xb_X12_readHeader_11 uk ih  h
def fn_X12_readHeader  (s : uS) : Option uS := fn_X12_readHeader_11 uFu 0 0 true (wI s 1079 14 0)
set_option maxRecDepth 100000 in
set_option maxHeartbeats 4000000 in
theorem xc_X12_readHeader {l : Launch} {D : va_G} {A : Nat → ClassId} {B : Nat} {Z : State → Heap → Prop} {vF : Value} (uk : uK B Z vF)  {s : uS} {r : uS}  (h : fn_X12_readHeader  s = some r) : CU l D A B Z 1 mX12_readHeader s [.ref (B + 1079)] (r, none) := by
  unfold fn_X12_readHeader at h
  refine cu_of rfl uk.1.1 (Nat.le_of_ble_eq_true rfl) ?_
  show GU _ _ _ _ _ _ _ _ _ 0 [(0, .ref (B + 1079))] []
  refine uu_aload_n dX12_readHeader_0 rfl (List.mem_of_getElem? (i := 0) rfl) ?_
  refine uu_iconst (v := 0) dX12_readHeader_1 (by decide) ?_
  refine uu_puti (ft := .int) (ci := 12) (N := 153) fX12_85 ptX12 (Or.inl rfl) (by decide) so_1079.is (by decide) (by decide) (by decide +kernel) rfl rfl dX12_readHeader_2 ?_
  refine uu_iconst (v := 0) dX12_readHeader_5 (by decide) ?_
  refine uu_istore_n dX12_readHeader_6 rfl (by decide) rfl ?_
  refine uu_iconst (v := 0) dX12_readHeader_7 (by decide) ?_
  refine uu_istore_n dX12_readHeader_8 rfl (by decide) rfl ?_
  refine uu_iconst (v := 1) dX12_readHeader_9 (by decide) ?_
  refine uu_istore_n dX12_readHeader_10 rfl (by decide) rfl ?_
  refine uu_lv [3, 2, 1, 0] (lv' := [(0, .ref (B + 1079)), (1, .int 0), (2, .int 0), (3, .int 1)]) rfl ?_
  exact xn_X12_readHeader_11 uk  _ _ _ _ _ _ h
abbrev mX12_likeLow : hM := (yX12_likeLow, cX12_likeLow, 3, (some (.boolean)))
theorem dX12_likeLow_19 : decode cX12_likeLow 19 = .ok (.iload_n 2, 1) := by decide +kernel
theorem dX12_likeLow_20 : decode cX12_likeLow 20 = .ok (.aload_n 0, 1) := by decide +kernel
theorem fX12_110 : h_fl RX12 110 12 21 RX12 TX12 153 := ⟨rfl, by decide, inX12, h_t11 222 rfl rfl⟩
theorem dX12_likeLow_21 : decode cX12_likeLow 21 = .ok (.getfield 110, 3) := by decide +kernel
theorem dX12_likeLow_24 : decode cX12_likeLow 24 = .ok (.if_icmp .ge 40, 3) := by decide +kernel
theorem dX12_likeLow_64 : decode cX12_likeLow 64 = .ok (.iload_n 1, 1) := by decide +kernel
theorem dX12_likeLow_65 : decode cX12_likeLow 65 = .ok (.ireturn, 1) := by decide +kernel
theorem dX12_likeLow_27 : decode cX12_likeLow 27 = .ok (.iload_n 1, 1) := by decide +kernel
theorem dX12_likeLow_28 : decode cX12_likeLow 28 = .ok (.ifCond .eq 36, 3) := by decide +kernel
theorem dX12_likeLow_31 : decode cX12_likeLow 31 = .ok (.aload_n 0, 1) := by decide +kernel
theorem dX12_likeLow_32 : decode cX12_likeLow 32 = .ok (.getfield 116, 3) := by decide +kernel
theorem dX12_likeLow_35 : decode cX12_likeLow 35 = .ok (.iload_n 2, 1) := by decide +kernel
theorem dX12_likeLow_36 : decode cX12_likeLow 36 = .ok (.iaload, 1) := by decide +kernel
theorem kX12_low : h_ml mX12_low 1 := ⟨h_t8 101 rfl rfl, h_t1 16 rfl rfl, ⟨by decide, by decide, by decide +kernel⟩, by decide⟩
theorem lX12_119 : Cond.methodLink RX12 119 mX12_low.1 ∈ lw_g := h_t8 99 rfl rfl
theorem sX12_low : Cond.static mX12_low.1 ∈ lw_g := h_t8 100 rfl rfl
theorem dX12_likeLow_37 : decode cX12_likeLow 37 = .ok (.invokestatic 119, 3) := by decide +kernel
theorem dX12_likeLow_40 : decode cX12_likeLow 40 = .ok (.aload_n 0, 1) := by decide +kernel
theorem dX12_likeLow_41 : decode cX12_likeLow 41 = .ok (.getfield 122, 3) := by decide +kernel
theorem dX12_likeLow_44 : decode cX12_likeLow 44 = .ok (.iload_n 2, 1) := by decide +kernel
theorem dX12_likeLow_45 : decode cX12_likeLow 45 = .ok (.iaload, 1) := by decide +kernel
theorem dX12_likeLow_46 : decode cX12_likeLow 46 = .ok (.invokestatic 119, 3) := by decide +kernel
theorem dX12_likeLow_49 : decode cX12_likeLow 49 = .ok (.if_icmp .ne 7, 3) := by decide +kernel
theorem dX12_likeLow_56 : decode cX12_likeLow 56 = .ok (.iconst 0, 1) := by decide +kernel
theorem dX12_likeLow_57 : decode cX12_likeLow 57 = .ok (.istore_n 1, 1) := by decide +kernel
theorem dX12_likeLow_58 : decode cX12_likeLow 58 = .ok (.iinc 2 1, 3) := by decide +kernel
theorem dX12_likeLow_61 : decode cX12_likeLow 61 = .ok (.goto (-42), 3) := by decide +kernel
theorem dX12_likeLow_52 : decode cX12_likeLow 52 = .ok (.iconst 1, 1) := by decide +kernel
theorem dX12_likeLow_53 : decode cX12_likeLow 53 = .ok (.goto 4, 3) := by decide +kernel
theorem dX12_likeLow_0 : decode cX12_likeLow 0 = .ok (.aload_n 0, 1) := by decide +kernel
theorem dX12_likeLow_1 : decode cX12_likeLow 1 = .ok (.getfield 110, 3) := by decide +kernel
theorem dX12_likeLow_4 : decode cX12_likeLow 4 = .ok (.aload_n 0, 1) := by decide +kernel
theorem fX12_113 : h_fl RX12 113 12 23 RX12 TX12 153 := ⟨rfl, by decide, inX12, h_t11 224 rfl rfl⟩
theorem dX12_likeLow_5 : decode cX12_likeLow 5 = .ok (.getfield 113, 3) := by decide +kernel
theorem dX12_likeLow_8 : decode cX12_likeLow 8 = .ok (.if_icmp .ne 7, 3) := by decide +kernel
theorem dX12_likeLow_15 : decode cX12_likeLow 15 = .ok (.iconst 0, 1) := by decide +kernel
theorem dX12_likeLow_16 : decode cX12_likeLow 16 = .ok (.istore_n 1, 1) := by decide +kernel
theorem dX12_likeLow_17 : decode cX12_likeLow 17 = .ok (.iconst 0, 1) := by decide +kernel
theorem dX12_likeLow_18 : decode cX12_likeLow 18 = .ok (.istore_n 2, 1) := by decide +kernel
theorem dX12_likeLow_11 : decode cX12_likeLow 11 = .ok (.iconst 1, 1) := by decide +kernel
theorem dX12_likeLow_12 : decode cX12_likeLow 12 = .ok (.goto 4, 3) := by decide +kernel
def fb_X12_likeLow_19 (K19 : Bool → Int32 → uS → Option Bool) (b1 : Bool) (x2 : Int32) (s : uS) : Option Bool := if (s.I 1079 21) ≤ x2 then (some b1) else (if b1 = true then ((iget 20 s 1093 x2).bind fun v3 => (fn_X12_low v3 s).bind fun v5 => (iget 20 s 1094 x2).bind fun v7 => (fn_X12_low v7 s).bind fun v9 => if v5 = v9 then (K19 true (x2 + 1) s) else (K19 false (x2 + 1) s)) else (some b1))
set_option maxRecDepth 100000 in
set_option maxHeartbeats 4000000 in
theorem xb_X12_likeLow_19 {l : Launch} {D : va_G} {A : Nat → ClassId} {B : Nat} {Z : State → Heap → Prop} {vF : Value} (uk : uK B Z vF) {K19 : Bool → Int32 → uS → Option Bool} (hK19 : ∀ (b1 : Bool) (x2 : Int32)  (s : uS) (r : Bool), K19 b1 x2 s = some r → GU l D A B Z mX12_likeLow 1 (s, some (.int (bI r))) s 19 [(0, .ref (B + 1079)), (1, .int (bI b1)), (2, .int x2)] []) {b1 : Bool} {x2 : Int32} {s : uS} {r : Bool}  (h : fb_X12_likeLow_19 K19 b1 x2 s = some r) : GU l D A B Z mX12_likeLow 1 (s, some (.int (bI r))) s 19 [(0, .ref (B + 1079)), (1, .int (bI b1)), (2, .int x2)] [] := by
  unfold fb_X12_likeLow_19 at h
  refine uu_iload_n dX12_likeLow_19 rfl (List.mem_of_getElem? (i := 2) rfl) ?_
  refine uu_aload_n dX12_likeLow_20 rfl (List.mem_of_getElem? (i := 0) rfl) ?_
  refine uu_geti (ci := 12) (N := 153) fX12_110 (by decide) so_1079.is (by decide) (by decide) dX12_likeLow_21 ?_
  refine uu_icmp_ge (tgt := 64) dX12_likeLow_24 (by decide) (fun c1 => ?_) (fun c1 => ?_)
  · replace h := uu_pos c1 h
    refine uu_iload_n dX12_likeLow_64 rfl (List.mem_of_getElem? (i := 1) rfl) ?_
    have hr := Option.some.inj h
    subst hr
    exact uu_zret (x := bI b1) rfl (bI_z _) dX12_likeLow_65
  · replace h := uu_neg c1 h
    refine uu_iload_n dX12_likeLow_27 rfl (List.mem_of_getElem? (i := 1) rfl) ?_
    refine uu_ifb_eq (tgt := 64) dX12_likeLow_28 (by decide) (fun c2 => ?_) (fun c2 => ?_)
    · replace h := uu_neg c2 h
      refine uu_iload_n dX12_likeLow_64 rfl (List.mem_of_getElem? (i := 1) rfl) ?_
      have hr := Option.some.inj h
      subst hr
      exact uu_zret (x := bI b1) rfl (bI_z _) dX12_likeLow_65
    · replace h := uu_pos c2 h
      refine uu_aload_n dX12_likeLow_31 rfl (List.mem_of_getElem? (i := 0) rfl) ?_
      refine uu_geta (ci := 12) (N := 153) fX12_116 (by decide) so_1079.is (by decide) (c := 1093) (by decide) dX12_likeLow_32 ?_
      refine uu_iload_n dX12_likeLow_35 rfl (List.mem_of_getElem? (i := 2) rfl) ?_
      obtain ⟨v3, e4, h⟩ := uu_ob h
      refine uu_iald e4 dX12_likeLow_36 ?_
      obtain ⟨v5, e6, h⟩ := uu_ob h
      refine uu_cs (d1 := 0) (As := [.int v3]) (st := []) (st' := [.int v5]) (xc_X12_low uk  e6) kX12_low lX12_119 sX12_low (by decide) (Nat.le_of_ble_eq_true rfl) dX12_likeLow_37 rfl ?_
      refine uu_aload_n dX12_likeLow_40 rfl (List.mem_of_getElem? (i := 0) rfl) ?_
      refine uu_geta (ci := 12) (N := 153) fX12_122 (by decide) so_1079.is (by decide) (c := 1094) (by decide) dX12_likeLow_41 ?_
      refine uu_iload_n dX12_likeLow_44 rfl (List.mem_of_getElem? (i := 2) rfl) ?_
      obtain ⟨v7, e8, h⟩ := uu_ob h
      refine uu_iald e8 dX12_likeLow_45 ?_
      obtain ⟨v9, e10, h⟩ := uu_ob h
      refine uu_cs (d1 := 0) (As := [.int v7]) (st := [.int v5]) (st' := [.int v9, .int v5]) (xc_X12_low uk  e10) kX12_low lX12_119 sX12_low (by decide) (Nat.le_of_ble_eq_true rfl) dX12_likeLow_46 rfl ?_
      refine uu_icmp_ne (tgt := 56) dX12_likeLow_49 (by decide) (fun c11 => ?_) (fun c11 => ?_)
      · replace h := uu_neg c11 h
        refine uu_iconst (v := 0) dX12_likeLow_56 (by decide) ?_
        refine uu_istore_n dX12_likeLow_57 rfl (by decide) rfl ?_
        refine uu_iinc (v := x2 + 1) dX12_likeLow_58 (k := 2) rfl rfl (by decide) rfl ?_
        refine uu_goto (tgt := 19) dX12_likeLow_61 (by decide) ?_
        refine uu_lv [2, 1, 0] (lv' := [(0, .ref (B + 1079)), (1, .int 0), (2, .int (x2 + 1))]) rfl ?_
        exact hK19 false (x2 + 1) _ _ h
      · replace h := uu_pos c11 h
        refine uu_iconst (v := 1) dX12_likeLow_52 (by decide) ?_
        refine uu_goto (tgt := 57) dX12_likeLow_53 (by decide) ?_
        refine uu_istore_n dX12_likeLow_57 rfl (by decide) rfl ?_
        refine uu_iinc (v := x2 + 1) dX12_likeLow_58 (k := 2) rfl rfl (by decide) rfl ?_
        refine uu_goto (tgt := 19) dX12_likeLow_61 (by decide) ?_
        refine uu_lv [2, 1, 0] (lv' := [(0, .ref (B + 1079)), (1, .int 1), (2, .int (x2 + 1))]) rfl ?_
        exact hK19 true (x2 + 1) _ _ h
def fn_X12_likeLow_19  : Nat → Bool → Int32 → uS → Option Bool
  | 0 => fun _ _ _ => none
  | n + 1 => fb_X12_likeLow_19 (fn_X12_likeLow_19  n)
set_option maxRecDepth 100000 in
set_option maxHeartbeats 4000000 in
theorem xn_X12_likeLow_19 {l : Launch} {D : va_G} {A : Nat → ClassId} {B : Nat} {Z : State → Heap → Prop} {vF : Value} (uk : uK B Z vF)   : ∀ (n : Nat) (b1 : Bool) (x2 : Int32)  (s : uS) (r : Bool), fn_X12_likeLow_19  n b1 x2 s = some r → GU l D A B Z mX12_likeLow 1 (s, some (.int (bI r))) s 19 [(0, .ref (B + 1079)), (1, .int (bI b1)), (2, .int x2)] [] := by
  intro n
  induction n with
  | zero => intro b1 x2 s r h
            cases h
  | succ n ih => intro b1 x2 s r h
                 exact xb_X12_likeLow_19 uk ih  h
def fn_X12_likeLow  (s : uS) : Option Bool := if (s.I 1079 21) = (s.I 1079 23) then (fn_X12_likeLow_19 uFu true 0 s) else (fn_X12_likeLow_19 uFu false 0 s)
set_option maxRecDepth 100000 in
set_option maxHeartbeats 4000000 in
theorem xc_X12_likeLow {l : Launch} {D : va_G} {A : Nat → ClassId} {B : Nat} {Z : State → Heap → Prop} {vF : Value} (uk : uK B Z vF)  {s : uS} {r : Bool}  (h : fn_X12_likeLow  s = some r) : CU l D A B Z 1 mX12_likeLow s [.ref (B + 1079)] (s, some (.int (bI r))) := by
  unfold fn_X12_likeLow at h
  refine cu_of rfl uk.1.1 (Nat.le_of_ble_eq_true rfl) ?_
  show GU _ _ _ _ _ _ _ _ _ 0 [(0, .ref (B + 1079))] []
  refine uu_aload_n dX12_likeLow_0 rfl (List.mem_of_getElem? (i := 0) rfl) ?_
  refine uu_geti (ci := 12) (N := 153) fX12_110 (by decide) so_1079.is (by decide) (by decide) dX12_likeLow_1 ?_
  refine uu_aload_n dX12_likeLow_4 rfl (List.mem_of_getElem? (i := 0) rfl) ?_
  refine uu_geti (ci := 12) (N := 153) fX12_113 (by decide) so_1079.is (by decide) (by decide) dX12_likeLow_5 ?_
  refine uu_icmp_ne (tgt := 15) dX12_likeLow_8 (by decide) (fun c1 => ?_) (fun c1 => ?_)
  · replace h := uu_neg c1 h
    refine uu_iconst (v := 0) dX12_likeLow_15 (by decide) ?_
    refine uu_istore_n dX12_likeLow_16 rfl (by decide) rfl ?_
    refine uu_iconst (v := 0) dX12_likeLow_17 (by decide) ?_
    refine uu_istore_n dX12_likeLow_18 rfl (by decide) rfl ?_
    refine uu_lv [2, 1, 0] (lv' := [(0, .ref (B + 1079)), (1, .int 0), (2, .int 0)]) rfl ?_
    exact xn_X12_likeLow_19 uk  _ _ _ _ _ h
  · replace h := uu_pos c1 h
    refine uu_iconst (v := 1) dX12_likeLow_11 (by decide) ?_
    refine uu_goto (tgt := 16) dX12_likeLow_12 (by decide) ?_
    refine uu_istore_n dX12_likeLow_16 rfl (by decide) rfl ?_
    refine uu_iconst (v := 0) dX12_likeLow_17 (by decide) ?_
    refine uu_istore_n dX12_likeLow_18 rfl (by decide) rfl ?_
    refine uu_lv [2, 1, 0] (lv' := [(0, .ref (B + 1079)), (1, .int 1), (2, .int 0)]) rfl ?_
    exact xn_X12_likeLow_19 uk  _ _ _ _ _ h
abbrev mX12_twoWord : hM := (yX12_twoWord, cX12_twoWord, 3, none)
theorem dX12_twoWord_10 : decode cX12_twoWord 10 = .ok (.iload_n 2, 1) := by decide +kernel
theorem dX12_twoWord_11 : decode cX12_twoWord 11 = .ok (.aload_n 0, 1) := by decide +kernel
theorem dX12_twoWord_12 : decode cX12_twoWord 12 = .ok (.getfield 113, 3) := by decide +kernel
theorem dX12_twoWord_15 : decode cX12_twoWord 15 = .ok (.if_icmp .ge 20, 3) := by decide +kernel
theorem dX12_twoWord_35 : decode cX12_twoWord 35 = .ok (.return_, 1) := by decide +kernel
theorem dX12_twoWord_18 : decode cX12_twoWord 18 = .ok (.aload_n 0, 1) := by decide +kernel
theorem dX12_twoWord_19 : decode cX12_twoWord 19 = .ok (.getfield 122, 3) := by decide +kernel
theorem dX12_twoWord_22 : decode cX12_twoWord 22 = .ok (.iload_n 2, 1) := by decide +kernel
theorem dX12_twoWord_23 : decode cX12_twoWord 23 = .ok (.aload_n 1, 1) := by decide +kernel
theorem dX12_twoWord_24 : decode cX12_twoWord 24 = .ok (.iload_n 2, 1) := by decide +kernel
theorem dX12_twoWord_25 : decode cX12_twoWord 25 = .ok (.invokevirtual 64, 3) := by decide +kernel
theorem dX12_twoWord_28 : decode cX12_twoWord 28 = .ok (.iastore, 1) := by decide +kernel
theorem dX12_twoWord_29 : decode cX12_twoWord 29 = .ok (.iinc 2 1, 3) := by decide +kernel
theorem dX12_twoWord_32 : decode cX12_twoWord 32 = .ok (.goto (-22), 3) := by decide +kernel
theorem dX12_twoWord_0 : decode cX12_twoWord 0 = .ok (.aload_n 0, 1) := by decide +kernel
theorem dX12_twoWord_1 : decode cX12_twoWord 1 = .ok (.aload_n 1, 1) := by decide +kernel
theorem dX12_twoWord_2 : decode cX12_twoWord 2 = .ok (.invokevirtual 58, 3) := by decide +kernel
theorem dX12_twoWord_5 : decode cX12_twoWord 5 = .ok (.putfield 113, 3) := by decide +kernel
theorem dX12_twoWord_8 : decode cX12_twoWord 8 = .ok (.iconst 0, 1) := by decide +kernel
theorem dX12_twoWord_9 : decode cX12_twoWord 9 = .ok (.istore_n 2, 1) := by decide +kernel
def fb_X12_twoWord_10 (K10 : List Nat → Int32 → uS → Option uS) (w1 : List Nat) (x2 : Int32) (s : uS) : Option uS := if (s.I 1079 23) ≤ x2 then (some s) else ((stget w1 x2).bind fun v2 => (iput 20 s 1094 x2 v2).bind fun s4 => K10 w1 (x2 + 1) s4)
set_option maxRecDepth 100000 in
set_option maxHeartbeats 4000000 in
theorem xb_X12_twoWord_10 {l : Launch} {D : va_G} {A : Nat → ClassId} {B : Nat} {Z : State → Heap → Prop} {vF : Value} (uk : uK B Z vF) {K10 : List Nat → Int32 → uS → Option uS} (hK10 : ∀ (w1 : List Nat) (x2 : Int32) {qw1 pw1 : Nat} (hw1 : uStr B Z qw1 pw1 w1) (s : uS) (r : uS), K10 w1 x2 s = some r → GU l D A B Z mX12_twoWord 4 (r, none) s 10 [(0, .ref (B + 1079)), (1, .ref qw1), (2, .int x2)] []) {w1 : List Nat} {x2 : Int32} {s : uS} {r : uS} {qw1 pw1 : Nat} (hw1 : uStr B Z qw1 pw1 w1) (h : fb_X12_twoWord_10 K10 w1 x2 s = some r) : GU l D A B Z mX12_twoWord 4 (r, none) s 10 [(0, .ref (B + 1079)), (1, .ref qw1), (2, .int x2)] [] := by
  unfold fb_X12_twoWord_10 at h
  refine uu_iload_n dX12_twoWord_10 rfl (List.mem_of_getElem? (i := 2) rfl) ?_
  refine uu_aload_n dX12_twoWord_11 rfl (List.mem_of_getElem? (i := 0) rfl) ?_
  refine uu_geti (ci := 12) (N := 153) fX12_113 (by decide) so_1079.is (by decide) (by decide) dX12_twoWord_12 ?_
  refine uu_icmp_ge (tgt := 35) dX12_twoWord_15 (by decide) (fun c1 => ?_) (fun c1 => ?_)
  · replace h := uu_pos c1 h
    have hr := Option.some.inj h
    subst hr
    exact uu_vret rfl dX12_twoWord_35
  · replace h := uu_neg c1 h
    refine uu_aload_n dX12_twoWord_18 rfl (List.mem_of_getElem? (i := 0) rfl) ?_
    refine uu_geta (ci := 12) (N := 153) fX12_122 (by decide) so_1079.is (by decide) (c := 1094) (by decide) dX12_twoWord_19 ?_
    refine uu_iload_n dX12_twoWord_22 rfl (List.mem_of_getElem? (i := 2) rfl) ?_
    refine uu_aload_n dX12_twoWord_23 rfl (List.mem_of_getElem? (i := 1) rfl) ?_
    refine uu_iload_n dX12_twoWord_24 rfl (List.mem_of_getElem? (i := 2) rfl) ?_
    obtain ⟨v2, e3, h⟩ := uu_ob h
    refine uu_sch uk hw1 e3 lX12_64 (by decide) (Nat.le_of_ble_eq_true rfl) dX12_twoWord_25 ?_
    obtain ⟨s4, e5, h⟩ := uu_ob h
    refine uu_iast e5 dX12_twoWord_28 ?_
    refine uu_iinc (v := x2 + 1) dX12_twoWord_29 (k := 2) rfl rfl (by decide) rfl ?_
    refine uu_goto (tgt := 10) dX12_twoWord_32 (by decide) ?_
    refine uu_lv [1, 2, 0] (lv' := [(0, .ref (B + 1079)), (1, .ref qw1), (2, .int (x2 + 1))]) rfl ?_
    exact hK10 w1 (x2 + 1) hw1 _ _ h
def fn_X12_twoWord_10  : Nat → List Nat → Int32 → uS → Option uS
  | 0 => fun _ _ _ => none
  | n + 1 => fb_X12_twoWord_10 (fn_X12_twoWord_10  n)
set_option maxRecDepth 100000 in
set_option maxHeartbeats 4000000 in
theorem xn_X12_twoWord_10 {l : Launch} {D : va_G} {A : Nat → ClassId} {B : Nat} {Z : State → Heap → Prop} {vF : Value} (uk : uK B Z vF)   : ∀ (n : Nat) (w1 : List Nat) (x2 : Int32) {qw1 pw1 : Nat} (hw1 : uStr B Z qw1 pw1 w1) (s : uS) (r : uS), fn_X12_twoWord_10  n w1 x2 s = some r → GU l D A B Z mX12_twoWord 4 (r, none) s 10 [(0, .ref (B + 1079)), (1, .ref qw1), (2, .int x2)] [] := by
  intro n
  induction n with
  | zero => intro w1 x2 qw1 pw1 hw1 s r h
            cases h
  | succ n ih => intro w1 x2 qw1 pw1 hw1 s r h
                 exact xb_X12_twoWord_10 uk ih hw1 h
def fn_X12_twoWord (w1 : List Nat) (s : uS) : Option uS := fn_X12_twoWord_10 uFu w1 0 (wI s 1079 23 (nI w1.length))
set_option maxRecDepth 100000 in
set_option maxHeartbeats 4000000 in
theorem xc_X12_twoWord {l : Launch} {D : va_G} {A : Nat → ClassId} {B : Nat} {Z : State → Heap → Prop} {vF : Value} (uk : uK B Z vF) {w1 : List Nat} {s : uS} {r : uS} {qw1 pw1 : Nat} (hw1 : uStr B Z qw1 pw1 w1) (h : fn_X12_twoWord w1 s = some r) : CU l D A B Z 4 mX12_twoWord s [.ref (B + 1079), .ref qw1] (r, none) := by
  unfold fn_X12_twoWord at h
  refine cu_of rfl uk.1.1 (Nat.le_of_ble_eq_true rfl) ?_
  show GU _ _ _ _ _ _ _ _ _ 0 [(0, .ref (B + 1079)), (1, .ref qw1)] []
  refine uu_aload_n dX12_twoWord_0 rfl (List.mem_of_getElem? (i := 0) rfl) ?_
  refine uu_aload_n dX12_twoWord_1 rfl (List.mem_of_getElem? (i := 1) rfl) ?_
  refine uu_slen uk hw1 lX12_58 (by decide) (Nat.le_of_ble_eq_true rfl) dX12_twoWord_2 ?_
  refine uu_puti (ft := .int) (ci := 12) (N := 153) fX12_113 ptX12 (Or.inl rfl) (by decide) so_1079.is (by decide) (by decide) (by decide +kernel) rfl rfl dX12_twoWord_5 ?_
  refine uu_iconst (v := 0) dX12_twoWord_8 (by decide) ?_
  refine uu_istore_n dX12_twoWord_9 rfl (by decide) rfl ?_
  refine uu_lv [1, 2, 0] (lv' := [(0, .ref (B + 1079)), (1, .ref qw1), (2, .int 0)]) rfl ?_
  exact xn_X12_twoWord_10 uk  _ _ _ hw1 _ _ h
abbrev mX12_oneIs : hM := (yX12_oneIs, cX12_oneIs, 2, (some (.boolean)))
theorem dX12_oneIs_0 : decode cX12_oneIs 0 = .ok (.aload_n 0, 1) := by decide +kernel
theorem dX12_oneIs_1 : decode cX12_oneIs 1 = .ok (.aload_n 1, 1) := by decide +kernel
theorem kX12_twoWord : h_ml mX12_twoWord 1 := ⟨h_t9 195 rfl rfl, h_t1 16 rfl rfl, ⟨by decide, by decide, by decide +kernel⟩, by decide⟩
theorem lX12_125 : Cond.methodLink RX12 125 mX12_twoWord.1 ∈ lw_g := h_t9 192 rfl rfl
theorem sX12_twoWord : Cond.instanceMethod mX12_twoWord.1 ∈ lw_g ∧ Cond.selects mX12_twoWord.1.cls mX12_twoWord.1 mX12_twoWord.1 ∈ lw_g := ⟨h_t9 194 rfl rfl, h_ins 189 rfl⟩
theorem dX12_oneIs_2 : decode cX12_oneIs 2 = .ok (.invokevirtual 125, 3) := by decide +kernel
theorem dX12_oneIs_5 : decode cX12_oneIs 5 = .ok (.aload_n 0, 1) := by decide +kernel
theorem kX12_likeLow : h_ml mX12_likeLow 0 := ⟨h_t9 199 rfl rfl, h_t1 16 rfl rfl, ⟨by decide, by decide, by decide +kernel⟩, by decide⟩
theorem lX12_129 : Cond.methodLink RX12 129 mX12_likeLow.1 ∈ lw_g := h_t9 196 rfl rfl
theorem sX12_likeLow : Cond.instanceMethod mX12_likeLow.1 ∈ lw_g ∧ Cond.selects mX12_likeLow.1.cls mX12_likeLow.1 mX12_likeLow.1 ∈ lw_g := ⟨h_t9 198 rfl rfl, h_ins 190 rfl⟩
theorem dX12_oneIs_6 : decode cX12_oneIs 6 = .ok (.invokevirtual 129, 3) := by decide +kernel
theorem dX12_oneIs_9 : decode cX12_oneIs 9 = .ok (.ireturn, 1) := by decide +kernel
def fn_X12_oneIs (w1 : List Nat) (s : uS) : Option (uS × Bool) := (fn_X12_twoWord w1 s).bind fun s1 => (fn_X12_likeLow s1).bind fun v3 => some (s1, v3)
set_option maxRecDepth 100000 in
set_option maxHeartbeats 4000000 in
theorem xc_X12_oneIs {l : Launch} {D : va_G} {A : Nat → ClassId} {B : Nat} {Z : State → Heap → Prop} {vF : Value} (uk : uK B Z vF) {w1 : List Nat} {s : uS} {r : (uS × Bool)} {qw1 pw1 : Nat} (hw1 : uStr B Z qw1 pw1 w1) (h : fn_X12_oneIs w1 s = some r) : CU l D A B Z 5 mX12_oneIs s [.ref (B + 1079), .ref qw1] (r.1, some (.int (bI r.2))) := by
  unfold fn_X12_oneIs at h
  refine cu_of rfl uk.1.1 (Nat.le_of_ble_eq_true rfl) ?_
  show GU _ _ _ _ _ _ _ _ _ 0 [(0, .ref (B + 1079)), (1, .ref qw1)] []
  refine uu_aload_n dX12_oneIs_0 rfl (List.mem_of_getElem? (i := 0) rfl) ?_
  refine uu_aload_n dX12_oneIs_1 rfl (List.mem_of_getElem? (i := 1) rfl) ?_
  obtain ⟨s1, e2, h⟩ := uu_ob h
  refine uu_cv (d1 := 4) (k := 1079) (ci := 12) (T := TX12) (N := 153) (As := [.ref qw1]) (st := []) (st' := []) (xc_X12_twoWord uk hw1 e2) so_1079.is (by decide) rfl kX12_twoWord lX12_125 sX12_twoWord (by decide) (Nat.le_of_ble_eq_true rfl) dX12_oneIs_2 rfl ?_
  refine uu_aload_n dX12_oneIs_5 rfl (List.mem_of_getElem? (i := 0) rfl) ?_
  obtain ⟨v3, e4, h⟩ := uu_ob h
  refine uu_cv (d1 := 1) (k := 1079) (ci := 12) (T := TX12) (N := 153) (As := []) (st := []) (st' := [.int (bI v3)]) (xc_X12_likeLow uk  e4) so_1079.is (by decide) rfl kX12_likeLow lX12_129 sX12_likeLow (by decide) (Nat.le_of_ble_eq_true rfl) dX12_oneIs_6 rfl ?_
  have hr := Option.some.inj h
  subst hr
  exact uu_zret (x := bI v3) rfl (bI_z _) dX12_oneIs_9
abbrev mX12_oneName : hM := (yX12_oneName, cX12_oneName, 3, none)
theorem dX12_oneName_12 : decode cX12_oneName 12 = .ok (.iload_n 2, 1) := by decide +kernel
theorem dX12_oneName_13 : decode cX12_oneName 13 = .ok (.aload_n 0, 1) := by decide +kernel
theorem dX12_oneName_14 : decode cX12_oneName 14 = .ok (.getfield 110, 3) := by decide +kernel
theorem dX12_oneName_17 : decode cX12_oneName 17 = .ok (.if_icmp .ge 28, 3) := by decide +kernel
theorem dX12_oneName_45 : decode cX12_oneName 45 = .ok (.return_, 1) := by decide +kernel
theorem dX12_oneName_20 : decode cX12_oneName 20 = .ok (.aload_n 0, 1) := by decide +kernel
theorem dX12_oneName_21 : decode cX12_oneName 21 = .ok (.getfield 116, 3) := by decide +kernel
theorem dX12_oneName_24 : decode cX12_oneName 24 = .ok (.iload_n 2, 1) := by decide +kernel
theorem dX12_oneName_25 : decode cX12_oneName 25 = .ok (.aload_n 0, 1) := by decide +kernel
theorem dX12_oneName_26 : decode cX12_oneName 26 = .ok (.getfield 78, 3) := by decide +kernel
theorem dX12_oneName_29 : decode cX12_oneName 29 = .ok (.aload_n 0, 1) := by decide +kernel
theorem dX12_oneName_30 : decode cX12_oneName 30 = .ok (.getfield 82, 3) := by decide +kernel
theorem dX12_oneName_33 : decode cX12_oneName 33 = .ok (.iload_n 1, 1) := by decide +kernel
theorem dX12_oneName_34 : decode cX12_oneName 34 = .ok (.iaload, 1) := by decide +kernel
theorem dX12_oneName_35 : decode cX12_oneName 35 = .ok (.iload_n 2, 1) := by decide +kernel
theorem dX12_oneName_36 : decode cX12_oneName 36 = .ok (.iadd, 1) := by decide +kernel
theorem dX12_oneName_37 : decode cX12_oneName 37 = .ok (.iaload, 1) := by decide +kernel
theorem dX12_oneName_38 : decode cX12_oneName 38 = .ok (.iastore, 1) := by decide +kernel
theorem dX12_oneName_39 : decode cX12_oneName 39 = .ok (.iinc 2 1, 3) := by decide +kernel
theorem dX12_oneName_42 : decode cX12_oneName 42 = .ok (.goto (-30), 3) := by decide +kernel
theorem dX12_oneName_0 : decode cX12_oneName 0 = .ok (.aload_n 0, 1) := by decide +kernel
theorem dX12_oneName_1 : decode cX12_oneName 1 = .ok (.aload_n 0, 1) := by decide +kernel
theorem dX12_oneName_2 : decode cX12_oneName 2 = .ok (.getfield 88, 3) := by decide +kernel
theorem dX12_oneName_5 : decode cX12_oneName 5 = .ok (.iload_n 1, 1) := by decide +kernel
theorem dX12_oneName_6 : decode cX12_oneName 6 = .ok (.iaload, 1) := by decide +kernel
theorem dX12_oneName_7 : decode cX12_oneName 7 = .ok (.putfield 110, 3) := by decide +kernel
theorem dX12_oneName_10 : decode cX12_oneName 10 = .ok (.iconst 0, 1) := by decide +kernel
theorem dX12_oneName_11 : decode cX12_oneName 11 = .ok (.istore_n 2, 1) := by decide +kernel
def fb_X12_oneName_12 (K12 : Int32 → Int32 → uS → Option uS) (x1 : Int32) (x2 : Int32) (s : uS) : Option uS := if (s.I 1079 21) ≤ x2 then (some s) else ((iget 20 s 1088 x1).bind fun v2 => (iget 20 s 1087 (v2 + x2)).bind fun v4 => (iput 20 s 1093 x2 v4).bind fun s6 => K12 x1 (x2 + 1) s6)
set_option maxRecDepth 100000 in
set_option maxHeartbeats 4000000 in
theorem xb_X12_oneName_12 {l : Launch} {D : va_G} {A : Nat → ClassId} {B : Nat} {Z : State → Heap → Prop} {vF : Value} (uk : uK B Z vF) {K12 : Int32 → Int32 → uS → Option uS} (hK12 : ∀ (x1 : Int32) (x2 : Int32)  (s : uS) (r : uS), K12 x1 x2 s = some r → GU l D A B Z mX12_oneName 0 (r, none) s 12 [(0, .ref (B + 1079)), (1, .int x1), (2, .int x2)] []) {x1 : Int32} {x2 : Int32} {s : uS} {r : uS}  (h : fb_X12_oneName_12 K12 x1 x2 s = some r) : GU l D A B Z mX12_oneName 0 (r, none) s 12 [(0, .ref (B + 1079)), (1, .int x1), (2, .int x2)] [] := by
  unfold fb_X12_oneName_12 at h
  refine uu_iload_n dX12_oneName_12 rfl (List.mem_of_getElem? (i := 2) rfl) ?_
  refine uu_aload_n dX12_oneName_13 rfl (List.mem_of_getElem? (i := 0) rfl) ?_
  refine uu_geti (ci := 12) (N := 153) fX12_110 (by decide) so_1079.is (by decide) (by decide) dX12_oneName_14 ?_
  refine uu_icmp_ge (tgt := 45) dX12_oneName_17 (by decide) (fun c1 => ?_) (fun c1 => ?_)
  · replace h := uu_pos c1 h
    have hr := Option.some.inj h
    subst hr
    exact uu_vret rfl dX12_oneName_45
  · replace h := uu_neg c1 h
    refine uu_aload_n dX12_oneName_20 rfl (List.mem_of_getElem? (i := 0) rfl) ?_
    refine uu_geta (ci := 12) (N := 153) fX12_116 (by decide) so_1079.is (by decide) (c := 1093) (by decide) dX12_oneName_21 ?_
    refine uu_iload_n dX12_oneName_24 rfl (List.mem_of_getElem? (i := 2) rfl) ?_
    refine uu_aload_n dX12_oneName_25 rfl (List.mem_of_getElem? (i := 0) rfl) ?_
    refine uu_geta (ci := 12) (N := 153) fX12_78 (by decide) so_1079.is (by decide) (c := 1087) (by decide) dX12_oneName_26 ?_
    refine uu_aload_n dX12_oneName_29 rfl (List.mem_of_getElem? (i := 0) rfl) ?_
    refine uu_geta (ci := 12) (N := 153) fX12_82 (by decide) so_1079.is (by decide) (c := 1088) (by decide) dX12_oneName_30 ?_
    refine uu_iload_n dX12_oneName_33 rfl (List.mem_of_getElem? (i := 1) rfl) ?_
    obtain ⟨v2, e3, h⟩ := uu_ob h
    refine uu_iald e3 dX12_oneName_34 ?_
    refine uu_iload_n dX12_oneName_35 rfl (List.mem_of_getElem? (i := 2) rfl) ?_
    refine uu_iadd dX12_oneName_36 ?_
    obtain ⟨v4, e5, h⟩ := uu_ob h
    refine uu_iald e5 dX12_oneName_37 ?_
    obtain ⟨s6, e7, h⟩ := uu_ob h
    refine uu_iast e7 dX12_oneName_38 ?_
    refine uu_iinc (v := x2 + 1) dX12_oneName_39 (k := 2) rfl rfl (by decide) rfl ?_
    refine uu_goto (tgt := 12) dX12_oneName_42 (by decide) ?_
    refine uu_lv [1, 2, 0] (lv' := [(0, .ref (B + 1079)), (1, .int x1), (2, .int (x2 + 1))]) rfl ?_
    exact hK12 x1 (x2 + 1) _ _ h
def fn_X12_oneName_12  : Nat → Int32 → Int32 → uS → Option uS
  | 0 => fun _ _ _ => none
  | n + 1 => fb_X12_oneName_12 (fn_X12_oneName_12  n)
set_option maxRecDepth 100000 in
set_option maxHeartbeats 4000000 in
theorem xn_X12_oneName_12 {l : Launch} {D : va_G} {A : Nat → ClassId} {B : Nat} {Z : State → Heap → Prop} {vF : Value} (uk : uK B Z vF)   : ∀ (n : Nat) (x1 : Int32) (x2 : Int32)  (s : uS) (r : uS), fn_X12_oneName_12  n x1 x2 s = some r → GU l D A B Z mX12_oneName 0 (r, none) s 12 [(0, .ref (B + 1079)), (1, .int x1), (2, .int x2)] [] := by
  intro n
  induction n with
  | zero => intro x1 x2 s r h
            cases h
  | succ n ih => intro x1 x2 s r h
                 exact xb_X12_oneName_12 uk ih  h
def fn_X12_oneName (x1 : Int32) (s : uS) : Option uS := (iget 20 s 1089 x1).bind fun v1 => fn_X12_oneName_12 uFu x1 0 (wI s 1079 21 v1)
set_option maxRecDepth 100000 in
set_option maxHeartbeats 4000000 in
theorem xc_X12_oneName {l : Launch} {D : va_G} {A : Nat → ClassId} {B : Nat} {Z : State → Heap → Prop} {vF : Value} (uk : uK B Z vF) {x1 : Int32} {s : uS} {r : uS}  (h : fn_X12_oneName x1 s = some r) : CU l D A B Z 0 mX12_oneName s [.ref (B + 1079), .int x1] (r, none) := by
  unfold fn_X12_oneName at h
  refine cu_of rfl uk.1.1 (Nat.le_of_ble_eq_true rfl) ?_
  show GU _ _ _ _ _ _ _ _ _ 0 [(0, .ref (B + 1079)), (1, .int x1)] []
  refine uu_aload_n dX12_oneName_0 rfl (List.mem_of_getElem? (i := 0) rfl) ?_
  refine uu_aload_n dX12_oneName_1 rfl (List.mem_of_getElem? (i := 0) rfl) ?_
  refine uu_geta (ci := 12) (N := 153) fX12_88 (by decide) so_1079.is (by decide) (c := 1089) (by decide) dX12_oneName_2 ?_
  refine uu_iload_n dX12_oneName_5 rfl (List.mem_of_getElem? (i := 1) rfl) ?_
  obtain ⟨v1, e2, h⟩ := uu_ob h
  refine uu_iald e2 dX12_oneName_6 ?_
  refine uu_puti (ft := .int) (ci := 12) (N := 153) fX12_110 ptX12 (Or.inl rfl) (by decide) so_1079.is (by decide) (by decide) (by decide +kernel) rfl rfl dX12_oneName_7 ?_
  refine uu_iconst (v := 0) dX12_oneName_10 (by decide) ?_
  refine uu_istore_n dX12_oneName_11 rfl (by decide) rfl ?_
  refine uu_lv [1, 2, 0] (lv' := [(0, .ref (B + 1079)), (1, .int x1), (2, .int 0)]) rfl ?_
  exact xn_X12_oneName_12 uk  _ _ _ _ _ h
abbrev mX12_oneValue : hM := (yX12_oneValue, cX12_oneValue, 3, none)
theorem dX12_oneValue_12 : decode cX12_oneValue 12 = .ok (.iload_n 2, 1) := by decide +kernel
theorem dX12_oneValue_13 : decode cX12_oneValue 13 = .ok (.aload_n 0, 1) := by decide +kernel
theorem dX12_oneValue_14 : decode cX12_oneValue 14 = .ok (.getfield 110, 3) := by decide +kernel
theorem dX12_oneValue_17 : decode cX12_oneValue 17 = .ok (.if_icmp .ge 28, 3) := by decide +kernel
theorem dX12_oneValue_45 : decode cX12_oneValue 45 = .ok (.return_, 1) := by decide +kernel
theorem dX12_oneValue_20 : decode cX12_oneValue 20 = .ok (.aload_n 0, 1) := by decide +kernel
theorem dX12_oneValue_21 : decode cX12_oneValue 21 = .ok (.getfield 116, 3) := by decide +kernel
theorem dX12_oneValue_24 : decode cX12_oneValue 24 = .ok (.iload_n 2, 1) := by decide +kernel
theorem dX12_oneValue_25 : decode cX12_oneValue 25 = .ok (.aload_n 0, 1) := by decide +kernel
theorem dX12_oneValue_26 : decode cX12_oneValue 26 = .ok (.getfield 101, 3) := by decide +kernel
theorem dX12_oneValue_29 : decode cX12_oneValue 29 = .ok (.aload_n 0, 1) := by decide +kernel
theorem dX12_oneValue_30 : decode cX12_oneValue 30 = .ok (.getfield 98, 3) := by decide +kernel
theorem dX12_oneValue_33 : decode cX12_oneValue 33 = .ok (.iload_n 1, 1) := by decide +kernel
theorem dX12_oneValue_34 : decode cX12_oneValue 34 = .ok (.iaload, 1) := by decide +kernel
theorem dX12_oneValue_35 : decode cX12_oneValue 35 = .ok (.iload_n 2, 1) := by decide +kernel
theorem dX12_oneValue_36 : decode cX12_oneValue 36 = .ok (.iadd, 1) := by decide +kernel
theorem dX12_oneValue_37 : decode cX12_oneValue 37 = .ok (.iaload, 1) := by decide +kernel
theorem dX12_oneValue_38 : decode cX12_oneValue 38 = .ok (.iastore, 1) := by decide +kernel
theorem dX12_oneValue_39 : decode cX12_oneValue 39 = .ok (.iinc 2 1, 3) := by decide +kernel
theorem dX12_oneValue_42 : decode cX12_oneValue 42 = .ok (.goto (-30), 3) := by decide +kernel
theorem dX12_oneValue_0 : decode cX12_oneValue 0 = .ok (.aload_n 0, 1) := by decide +kernel
theorem dX12_oneValue_1 : decode cX12_oneValue 1 = .ok (.aload_n 0, 1) := by decide +kernel
theorem dX12_oneValue_2 : decode cX12_oneValue 2 = .ok (.getfield 107, 3) := by decide +kernel
theorem dX12_oneValue_5 : decode cX12_oneValue 5 = .ok (.iload_n 1, 1) := by decide +kernel
theorem dX12_oneValue_6 : decode cX12_oneValue 6 = .ok (.iaload, 1) := by decide +kernel
theorem dX12_oneValue_7 : decode cX12_oneValue 7 = .ok (.putfield 110, 3) := by decide +kernel
theorem dX12_oneValue_10 : decode cX12_oneValue 10 = .ok (.iconst 0, 1) := by decide +kernel
theorem dX12_oneValue_11 : decode cX12_oneValue 11 = .ok (.istore_n 2, 1) := by decide +kernel
def fb_X12_oneValue_12 (K12 : Int32 → Int32 → uS → Option uS) (x1 : Int32) (x2 : Int32) (s : uS) : Option uS := if (s.I 1079 21) ≤ x2 then (some s) else ((iget 20 s 1090 x1).bind fun v2 => (iget 20 s 1092 (v2 + x2)).bind fun v4 => (iput 20 s 1093 x2 v4).bind fun s6 => K12 x1 (x2 + 1) s6)
set_option maxRecDepth 100000 in
set_option maxHeartbeats 4000000 in
theorem xb_X12_oneValue_12 {l : Launch} {D : va_G} {A : Nat → ClassId} {B : Nat} {Z : State → Heap → Prop} {vF : Value} (uk : uK B Z vF) {K12 : Int32 → Int32 → uS → Option uS} (hK12 : ∀ (x1 : Int32) (x2 : Int32)  (s : uS) (r : uS), K12 x1 x2 s = some r → GU l D A B Z mX12_oneValue 0 (r, none) s 12 [(0, .ref (B + 1079)), (1, .int x1), (2, .int x2)] []) {x1 : Int32} {x2 : Int32} {s : uS} {r : uS}  (h : fb_X12_oneValue_12 K12 x1 x2 s = some r) : GU l D A B Z mX12_oneValue 0 (r, none) s 12 [(0, .ref (B + 1079)), (1, .int x1), (2, .int x2)] [] := by
  unfold fb_X12_oneValue_12 at h
  refine uu_iload_n dX12_oneValue_12 rfl (List.mem_of_getElem? (i := 2) rfl) ?_
  refine uu_aload_n dX12_oneValue_13 rfl (List.mem_of_getElem? (i := 0) rfl) ?_
  refine uu_geti (ci := 12) (N := 153) fX12_110 (by decide) so_1079.is (by decide) (by decide) dX12_oneValue_14 ?_
  refine uu_icmp_ge (tgt := 45) dX12_oneValue_17 (by decide) (fun c1 => ?_) (fun c1 => ?_)
  · replace h := uu_pos c1 h
    have hr := Option.some.inj h
    subst hr
    exact uu_vret rfl dX12_oneValue_45
  · replace h := uu_neg c1 h
    refine uu_aload_n dX12_oneValue_20 rfl (List.mem_of_getElem? (i := 0) rfl) ?_
    refine uu_geta (ci := 12) (N := 153) fX12_116 (by decide) so_1079.is (by decide) (c := 1093) (by decide) dX12_oneValue_21 ?_
    refine uu_iload_n dX12_oneValue_24 rfl (List.mem_of_getElem? (i := 2) rfl) ?_
    refine uu_aload_n dX12_oneValue_25 rfl (List.mem_of_getElem? (i := 0) rfl) ?_
    refine uu_geta (ci := 12) (N := 153) fX12_101 (by decide) so_1079.is (by decide) (c := 1092) (by decide) dX12_oneValue_26 ?_
    refine uu_aload_n dX12_oneValue_29 rfl (List.mem_of_getElem? (i := 0) rfl) ?_
    refine uu_geta (ci := 12) (N := 153) fX12_98 (by decide) so_1079.is (by decide) (c := 1090) (by decide) dX12_oneValue_30 ?_
    refine uu_iload_n dX12_oneValue_33 rfl (List.mem_of_getElem? (i := 1) rfl) ?_
    obtain ⟨v2, e3, h⟩ := uu_ob h
    refine uu_iald e3 dX12_oneValue_34 ?_
    refine uu_iload_n dX12_oneValue_35 rfl (List.mem_of_getElem? (i := 2) rfl) ?_
    refine uu_iadd dX12_oneValue_36 ?_
    obtain ⟨v4, e5, h⟩ := uu_ob h
    refine uu_iald e5 dX12_oneValue_37 ?_
    obtain ⟨s6, e7, h⟩ := uu_ob h
    refine uu_iast e7 dX12_oneValue_38 ?_
    refine uu_iinc (v := x2 + 1) dX12_oneValue_39 (k := 2) rfl rfl (by decide) rfl ?_
    refine uu_goto (tgt := 12) dX12_oneValue_42 (by decide) ?_
    refine uu_lv [1, 2, 0] (lv' := [(0, .ref (B + 1079)), (1, .int x1), (2, .int (x2 + 1))]) rfl ?_
    exact hK12 x1 (x2 + 1) _ _ h
def fn_X12_oneValue_12  : Nat → Int32 → Int32 → uS → Option uS
  | 0 => fun _ _ _ => none
  | n + 1 => fb_X12_oneValue_12 (fn_X12_oneValue_12  n)
set_option maxRecDepth 100000 in
set_option maxHeartbeats 4000000 in
theorem xn_X12_oneValue_12 {l : Launch} {D : va_G} {A : Nat → ClassId} {B : Nat} {Z : State → Heap → Prop} {vF : Value} (uk : uK B Z vF)   : ∀ (n : Nat) (x1 : Int32) (x2 : Int32)  (s : uS) (r : uS), fn_X12_oneValue_12  n x1 x2 s = some r → GU l D A B Z mX12_oneValue 0 (r, none) s 12 [(0, .ref (B + 1079)), (1, .int x1), (2, .int x2)] [] := by
  intro n
  induction n with
  | zero => intro x1 x2 s r h
            cases h
  | succ n ih => intro x1 x2 s r h
                 exact xb_X12_oneValue_12 uk ih  h
def fn_X12_oneValue (x1 : Int32) (s : uS) : Option uS := (iget 20 s 1091 x1).bind fun v1 => fn_X12_oneValue_12 uFu x1 0 (wI s 1079 21 v1)
set_option maxRecDepth 100000 in
set_option maxHeartbeats 4000000 in
theorem xc_X12_oneValue {l : Launch} {D : va_G} {A : Nat → ClassId} {B : Nat} {Z : State → Heap → Prop} {vF : Value} (uk : uK B Z vF) {x1 : Int32} {s : uS} {r : uS}  (h : fn_X12_oneValue x1 s = some r) : CU l D A B Z 0 mX12_oneValue s [.ref (B + 1079), .int x1] (r, none) := by
  unfold fn_X12_oneValue at h
  refine cu_of rfl uk.1.1 (Nat.le_of_ble_eq_true rfl) ?_
  show GU _ _ _ _ _ _ _ _ _ 0 [(0, .ref (B + 1079)), (1, .int x1)] []
  refine uu_aload_n dX12_oneValue_0 rfl (List.mem_of_getElem? (i := 0) rfl) ?_
  refine uu_aload_n dX12_oneValue_1 rfl (List.mem_of_getElem? (i := 0) rfl) ?_
  refine uu_geta (ci := 12) (N := 153) fX12_107 (by decide) so_1079.is (by decide) (c := 1091) (by decide) dX12_oneValue_2 ?_
  refine uu_iload_n dX12_oneValue_5 rfl (List.mem_of_getElem? (i := 1) rfl) ?_
  obtain ⟨v1, e2, h⟩ := uu_ob h
  refine uu_iald e2 dX12_oneValue_6 ?_
  refine uu_puti (ft := .int) (ci := 12) (N := 153) fX12_110 ptX12 (Or.inl rfl) (by decide) so_1079.is (by decide) (by decide) (by decide +kernel) rfl rfl dX12_oneValue_7 ?_
  refine uu_iconst (v := 0) dX12_oneValue_10 (by decide) ?_
  refine uu_istore_n dX12_oneValue_11 rfl (by decide) rfl ?_
  refine uu_lv [1, 2, 0] (lv' := [(0, .ref (B + 1079)), (1, .int x1), (2, .int 0)]) rfl ?_
  exact xn_X12_oneValue_12 uk  _ _ _ _ _ h
abbrev mX12_isLocal : hM := (yX12_isLocal, cX12_isLocal, 1, (some (.boolean)))
theorem dX12_isLocal_80 : decode cX12_isLocal 80 = .ok (.iload_n 0, 1) := by decide +kernel
theorem dX12_isLocal_81 : decode cX12_isLocal 81 = .ok (.bipush 123, 2) := by decide +kernel
theorem dX12_isLocal_83 : decode cX12_isLocal 83 = .ok (.if_icmp .lt 13, 3) := by decide +kernel
theorem dX12_isLocal_96 : decode cX12_isLocal 96 = .ok (.iconst 0, 1) := by decide +kernel
theorem dX12_isLocal_97 : decode cX12_isLocal 97 = .ok (.ireturn, 1) := by decide +kernel
theorem dX12_isLocal_86 : decode cX12_isLocal 86 = .ok (.iload_n 0, 1) := by decide +kernel
theorem dX12_isLocal_87 : decode cX12_isLocal 87 = .ok (.bipush 126, 2) := by decide +kernel
theorem dX12_isLocal_89 : decode cX12_isLocal 89 = .ok (.if_icmp .gt 7, 3) := by decide +kernel
theorem dX12_isLocal_92 : decode cX12_isLocal 92 = .ok (.iconst 1, 1) := by decide +kernel
theorem dX12_isLocal_93 : decode cX12_isLocal 93 = .ok (.goto 4, 3) := by decide +kernel
theorem dX12_isLocal_32 : decode cX12_isLocal 32 = .ok (.iload_n 0, 1) := by decide +kernel
theorem dX12_isLocal_33 : decode cX12_isLocal 33 = .ok (.bipush 42, 2) := by decide +kernel
theorem dX12_isLocal_35 : decode cX12_isLocal 35 = .ok (.if_icmp .eq 57, 3) := by decide +kernel
theorem dX12_isLocal_38 : decode cX12_isLocal 38 = .ok (.iload_n 0, 1) := by decide +kernel
theorem dX12_isLocal_39 : decode cX12_isLocal 39 = .ok (.bipush 43, 2) := by decide +kernel
theorem dX12_isLocal_41 : decode cX12_isLocal 41 = .ok (.if_icmp .eq 51, 3) := by decide +kernel
theorem dX12_isLocal_44 : decode cX12_isLocal 44 = .ok (.iload_n 0, 1) := by decide +kernel
theorem dX12_isLocal_45 : decode cX12_isLocal 45 = .ok (.bipush 45, 2) := by decide +kernel
theorem dX12_isLocal_47 : decode cX12_isLocal 47 = .ok (.if_icmp .eq 45, 3) := by decide +kernel
theorem dX12_isLocal_50 : decode cX12_isLocal 50 = .ok (.iload_n 0, 1) := by decide +kernel
theorem dX12_isLocal_51 : decode cX12_isLocal 51 = .ok (.bipush 47, 2) := by decide +kernel
theorem dX12_isLocal_53 : decode cX12_isLocal 53 = .ok (.if_icmp .eq 39, 3) := by decide +kernel
theorem dX12_isLocal_56 : decode cX12_isLocal 56 = .ok (.iload_n 0, 1) := by decide +kernel
theorem dX12_isLocal_57 : decode cX12_isLocal 57 = .ok (.bipush 61, 2) := by decide +kernel
theorem dX12_isLocal_59 : decode cX12_isLocal 59 = .ok (.if_icmp .eq 33, 3) := by decide +kernel
theorem dX12_isLocal_62 : decode cX12_isLocal 62 = .ok (.iload_n 0, 1) := by decide +kernel
theorem dX12_isLocal_63 : decode cX12_isLocal 63 = .ok (.bipush 63, 2) := by decide +kernel
theorem dX12_isLocal_65 : decode cX12_isLocal 65 = .ok (.if_icmp .eq 27, 3) := by decide +kernel
theorem dX12_isLocal_68 : decode cX12_isLocal 68 = .ok (.iload_n 0, 1) := by decide +kernel
theorem dX12_isLocal_69 : decode cX12_isLocal 69 = .ok (.bipush 94, 2) := by decide +kernel
theorem dX12_isLocal_71 : decode cX12_isLocal 71 = .ok (.if_icmp .lt 9, 3) := by decide +kernel
theorem dX12_isLocal_74 : decode cX12_isLocal 74 = .ok (.iload_n 0, 1) := by decide +kernel
theorem dX12_isLocal_75 : decode cX12_isLocal 75 = .ok (.bipush 96, 2) := by decide +kernel
theorem dX12_isLocal_77 : decode cX12_isLocal 77 = .ok (.if_icmp .le 15, 3) := by decide +kernel
theorem dX12_isLocal_0 : decode cX12_isLocal 0 = .ok (.iload_n 0, 1) := by decide +kernel
theorem kX12_isLetter : h_ml mX12_isLetter 1 := ⟨h_t8 79 rfl rfl, h_t1 16 rfl rfl, ⟨by decide, by decide, by decide +kernel⟩, by decide⟩
theorem lX12_133 : Cond.methodLink RX12 133 mX12_isLetter.1 ∈ lw_g := h_t8 77 rfl rfl
theorem sX12_isLetter : Cond.static mX12_isLetter.1 ∈ lw_g := h_t8 78 rfl rfl
theorem dX12_isLocal_1 : decode cX12_isLocal 1 = .ok (.invokestatic 133, 3) := by decide +kernel
theorem dX12_isLocal_4 : decode cX12_isLocal 4 = .ok (.ifCond .ne 88, 3) := by decide +kernel
theorem dX12_isLocal_7 : decode cX12_isLocal 7 = .ok (.iload_n 0, 1) := by decide +kernel
theorem kX12_isDigit : h_ml mX12_isDigit 1 := ⟨h_t8 93 rfl rfl, h_t1 16 rfl rfl, ⟨by decide, by decide, by decide +kernel⟩, by decide⟩
theorem lX12_137 : Cond.methodLink RX12 137 mX12_isDigit.1 ∈ lw_g := h_t8 91 rfl rfl
theorem sX12_isDigit : Cond.static mX12_isDigit.1 ∈ lw_g := h_t8 92 rfl rfl
theorem dX12_isLocal_8 : decode cX12_isLocal 8 = .ok (.invokestatic 137, 3) := by decide +kernel
theorem dX12_isLocal_11 : decode cX12_isLocal 11 = .ok (.ifCond .ne 81, 3) := by decide +kernel
theorem dX12_isLocal_14 : decode cX12_isLocal 14 = .ok (.iload_n 0, 1) := by decide +kernel
theorem dX12_isLocal_15 : decode cX12_isLocal 15 = .ok (.bipush 33, 2) := by decide +kernel
theorem dX12_isLocal_17 : decode cX12_isLocal 17 = .ok (.if_icmp .eq 75, 3) := by decide +kernel
theorem dX12_isLocal_20 : decode cX12_isLocal 20 = .ok (.iload_n 0, 1) := by decide +kernel
theorem dX12_isLocal_21 : decode cX12_isLocal 21 = .ok (.bipush 35, 2) := by decide +kernel
theorem dX12_isLocal_23 : decode cX12_isLocal 23 = .ok (.if_icmp .lt 9, 3) := by decide +kernel
theorem dX12_isLocal_26 : decode cX12_isLocal 26 = .ok (.iload_n 0, 1) := by decide +kernel
theorem dX12_isLocal_27 : decode cX12_isLocal 27 = .ok (.bipush 39, 2) := by decide +kernel
theorem dX12_isLocal_29 : decode cX12_isLocal 29 = .ok (.if_icmp .le 63, 3) := by decide +kernel
def fb_X12_isLocal_80  (x0 : Int32) (s : uS) : Option Bool := if x0 < 123 then (some false) else (if (126 : Int32) < x0 then (some false) else (some true))
set_option maxRecDepth 100000 in
set_option maxHeartbeats 4000000 in
theorem xb_X12_isLocal_80 {l : Launch} {D : va_G} {A : Nat → ClassId} {B : Nat} {Z : State → Heap → Prop} {vF : Value} (uk : uK B Z vF)   {x0 : Int32} {s : uS} {r : Bool}  (h : fb_X12_isLocal_80  x0 s = some r) : GU l D A B Z mX12_isLocal 1 (s, some (.int (bI r))) s 80 [(0, .int x0)] [] := by
  unfold fb_X12_isLocal_80 at h
  refine uu_iload_n dX12_isLocal_80 rfl (List.mem_of_getElem? (i := 0) rfl) ?_
  refine uu_bipush (v := 123) dX12_isLocal_81 (by decide) ?_
  refine uu_icmp_lt (tgt := 96) dX12_isLocal_83 (by decide) (fun c1 => ?_) (fun c1 => ?_)
  · replace h := uu_pos c1 h
    refine uu_iconst (v := 0) dX12_isLocal_96 (by decide) ?_
    have hr := Option.some.inj h
    subst hr
    exact uu_zret (x := bI false) rfl (bI_z _) dX12_isLocal_97
  · replace h := uu_neg c1 h
    refine uu_iload_n dX12_isLocal_86 rfl (List.mem_of_getElem? (i := 0) rfl) ?_
    refine uu_bipush (v := 126) dX12_isLocal_87 (by decide) ?_
    refine uu_icmp_gt (tgt := 96) dX12_isLocal_89 (by decide) (fun c2 => ?_) (fun c2 => ?_)
    · replace h := uu_pos c2 h
      refine uu_iconst (v := 0) dX12_isLocal_96 (by decide) ?_
      have hr := Option.some.inj h
      subst hr
      exact uu_zret (x := bI false) rfl (bI_z _) dX12_isLocal_97
    · replace h := uu_neg c2 h
      refine uu_iconst (v := 1) dX12_isLocal_92 (by decide) ?_
      refine uu_goto (tgt := 97) dX12_isLocal_93 (by decide) ?_
      have hr := Option.some.inj h
      subst hr
      exact uu_zret (x := bI true) rfl (bI_z _) dX12_isLocal_97
def fb_X12_isLocal_32  (x0 : Int32) (s : uS) : Option Bool := if x0 = 42 then (some true) else (if x0 = 43 then (some true) else (if x0 = 45 then (some true) else (if x0 = 47 then (some true) else (if x0 = 61 then (some true) else (if x0 = 63 then (some true) else (if x0 < 94 then (fb_X12_isLocal_80 x0 s) else (if x0 ≤ 96 then (some true) else (fb_X12_isLocal_80 x0 s))))))))
set_option maxRecDepth 100000 in
set_option maxHeartbeats 4000000 in
theorem xb_X12_isLocal_32 {l : Launch} {D : va_G} {A : Nat → ClassId} {B : Nat} {Z : State → Heap → Prop} {vF : Value} (uk : uK B Z vF)   {x0 : Int32} {s : uS} {r : Bool}  (h : fb_X12_isLocal_32  x0 s = some r) : GU l D A B Z mX12_isLocal 1 (s, some (.int (bI r))) s 32 [(0, .int x0)] [] := by
  unfold fb_X12_isLocal_32 at h
  refine uu_iload_n dX12_isLocal_32 rfl (List.mem_of_getElem? (i := 0) rfl) ?_
  refine uu_bipush (v := 42) dX12_isLocal_33 (by decide) ?_
  refine uu_icmp_eq (tgt := 92) dX12_isLocal_35 (by decide) (fun c1 => ?_) (fun c1 => ?_)
  · replace h := uu_pos c1 h
    refine uu_iconst (v := 1) dX12_isLocal_92 (by decide) ?_
    refine uu_goto (tgt := 97) dX12_isLocal_93 (by decide) ?_
    have hr := Option.some.inj h
    subst hr
    exact uu_zret (x := bI true) rfl (bI_z _) dX12_isLocal_97
  · replace h := uu_neg c1 h
    refine uu_iload_n dX12_isLocal_38 rfl (List.mem_of_getElem? (i := 0) rfl) ?_
    refine uu_bipush (v := 43) dX12_isLocal_39 (by decide) ?_
    refine uu_icmp_eq (tgt := 92) dX12_isLocal_41 (by decide) (fun c2 => ?_) (fun c2 => ?_)
    · replace h := uu_pos c2 h
      refine uu_iconst (v := 1) dX12_isLocal_92 (by decide) ?_
      refine uu_goto (tgt := 97) dX12_isLocal_93 (by decide) ?_
      have hr := Option.some.inj h
      subst hr
      exact uu_zret (x := bI true) rfl (bI_z _) dX12_isLocal_97
    · replace h := uu_neg c2 h
      refine uu_iload_n dX12_isLocal_44 rfl (List.mem_of_getElem? (i := 0) rfl) ?_
      refine uu_bipush (v := 45) dX12_isLocal_45 (by decide) ?_
      refine uu_icmp_eq (tgt := 92) dX12_isLocal_47 (by decide) (fun c3 => ?_) (fun c3 => ?_)
      · replace h := uu_pos c3 h
        refine uu_iconst (v := 1) dX12_isLocal_92 (by decide) ?_
        refine uu_goto (tgt := 97) dX12_isLocal_93 (by decide) ?_
        have hr := Option.some.inj h
        subst hr
        exact uu_zret (x := bI true) rfl (bI_z _) dX12_isLocal_97
      · replace h := uu_neg c3 h
        refine uu_iload_n dX12_isLocal_50 rfl (List.mem_of_getElem? (i := 0) rfl) ?_
        refine uu_bipush (v := 47) dX12_isLocal_51 (by decide) ?_
        refine uu_icmp_eq (tgt := 92) dX12_isLocal_53 (by decide) (fun c4 => ?_) (fun c4 => ?_)
        · replace h := uu_pos c4 h
          refine uu_iconst (v := 1) dX12_isLocal_92 (by decide) ?_
          refine uu_goto (tgt := 97) dX12_isLocal_93 (by decide) ?_
          have hr := Option.some.inj h
          subst hr
          exact uu_zret (x := bI true) rfl (bI_z _) dX12_isLocal_97
        · replace h := uu_neg c4 h
          refine uu_iload_n dX12_isLocal_56 rfl (List.mem_of_getElem? (i := 0) rfl) ?_
          refine uu_bipush (v := 61) dX12_isLocal_57 (by decide) ?_
          refine uu_icmp_eq (tgt := 92) dX12_isLocal_59 (by decide) (fun c5 => ?_) (fun c5 => ?_)
          · replace h := uu_pos c5 h
            refine uu_iconst (v := 1) dX12_isLocal_92 (by decide) ?_
            refine uu_goto (tgt := 97) dX12_isLocal_93 (by decide) ?_
            have hr := Option.some.inj h
            subst hr
            exact uu_zret (x := bI true) rfl (bI_z _) dX12_isLocal_97
          · replace h := uu_neg c5 h
            refine uu_iload_n dX12_isLocal_62 rfl (List.mem_of_getElem? (i := 0) rfl) ?_
            refine uu_bipush (v := 63) dX12_isLocal_63 (by decide) ?_
            refine uu_icmp_eq (tgt := 92) dX12_isLocal_65 (by decide) (fun c6 => ?_) (fun c6 => ?_)
            · replace h := uu_pos c6 h
              refine uu_iconst (v := 1) dX12_isLocal_92 (by decide) ?_
              refine uu_goto (tgt := 97) dX12_isLocal_93 (by decide) ?_
              have hr := Option.some.inj h
              subst hr
              exact uu_zret (x := bI true) rfl (bI_z _) dX12_isLocal_97
            · replace h := uu_neg c6 h
              refine uu_iload_n dX12_isLocal_68 rfl (List.mem_of_getElem? (i := 0) rfl) ?_
              refine uu_bipush (v := 94) dX12_isLocal_69 (by decide) ?_
              refine uu_icmp_lt (tgt := 80) dX12_isLocal_71 (by decide) (fun c7 => ?_) (fun c7 => ?_)
              · replace h := uu_pos c7 h
                exact xb_X12_isLocal_80 uk  h
              · replace h := uu_neg c7 h
                refine uu_iload_n dX12_isLocal_74 rfl (List.mem_of_getElem? (i := 0) rfl) ?_
                refine uu_bipush (v := 96) dX12_isLocal_75 (by decide) ?_
                refine uu_icmp_le (tgt := 92) dX12_isLocal_77 (by decide) (fun c8 => ?_) (fun c8 => ?_)
                · replace h := uu_pos c8 h
                  refine uu_iconst (v := 1) dX12_isLocal_92 (by decide) ?_
                  refine uu_goto (tgt := 97) dX12_isLocal_93 (by decide) ?_
                  have hr := Option.some.inj h
                  subst hr
                  exact uu_zret (x := bI true) rfl (bI_z _) dX12_isLocal_97
                · replace h := uu_neg c8 h
                  exact xb_X12_isLocal_80 uk  h
def fn_X12_isLocal (x0 : Int32) (s : uS) : Option Bool := (fn_X12_isLetter x0 s).bind fun v1 => if v1 = true then (some true) else ((fn_X12_isDigit x0 s).bind fun v4 => if v4 = true then (some true) else (if x0 = 33 then (some true) else (if x0 < 35 then (fb_X12_isLocal_32 x0 s) else (if x0 ≤ 39 then (some true) else (fb_X12_isLocal_32 x0 s)))))
set_option maxRecDepth 100000 in
set_option maxHeartbeats 4000000 in
theorem xc_X12_isLocal {l : Launch} {D : va_G} {A : Nat → ClassId} {B : Nat} {Z : State → Heap → Prop} {vF : Value} (uk : uK B Z vF) {x0 : Int32} {s : uS} {r : Bool}  (h : fn_X12_isLocal x0 s = some r) : CU l D A B Z 1 mX12_isLocal s [.int x0] (s, some (.int (bI r))) := by
  unfold fn_X12_isLocal at h
  refine cu_of rfl uk.1.1 (Nat.le_of_ble_eq_true rfl) ?_
  show GU _ _ _ _ _ _ _ _ _ 0 [(0, .int x0)] []
  refine uu_iload_n dX12_isLocal_0 rfl (List.mem_of_getElem? (i := 0) rfl) ?_
  obtain ⟨v1, e2, h⟩ := uu_ob h
  refine uu_cs (d1 := 0) (As := [.int x0]) (st := []) (st' := [.int (bI v1)]) (xc_X12_isLetter uk  e2) kX12_isLetter lX12_133 sX12_isLetter (by decide) (Nat.le_of_ble_eq_true rfl) dX12_isLocal_1 rfl ?_
  refine uu_ifb_ne (tgt := 92) dX12_isLocal_4 (by decide) (fun c3 => ?_) (fun c3 => ?_)
  · replace h := uu_pos c3 h
    refine uu_iconst (v := 1) dX12_isLocal_92 (by decide) ?_
    refine uu_goto (tgt := 97) dX12_isLocal_93 (by decide) ?_
    have hr := Option.some.inj h
    subst hr
    exact uu_zret (x := bI true) rfl (bI_z _) dX12_isLocal_97
  · replace h := uu_neg c3 h
    refine uu_iload_n dX12_isLocal_7 rfl (List.mem_of_getElem? (i := 0) rfl) ?_
    obtain ⟨v4, e5, h⟩ := uu_ob h
    refine uu_cs (d1 := 0) (As := [.int x0]) (st := []) (st' := [.int (bI v4)]) (xc_X12_isDigit uk  e5) kX12_isDigit lX12_137 sX12_isDigit (by decide) (Nat.le_of_ble_eq_true rfl) dX12_isLocal_8 rfl ?_
    refine uu_ifb_ne (tgt := 92) dX12_isLocal_11 (by decide) (fun c6 => ?_) (fun c6 => ?_)
    · replace h := uu_pos c6 h
      refine uu_iconst (v := 1) dX12_isLocal_92 (by decide) ?_
      refine uu_goto (tgt := 97) dX12_isLocal_93 (by decide) ?_
      have hr := Option.some.inj h
      subst hr
      exact uu_zret (x := bI true) rfl (bI_z _) dX12_isLocal_97
    · replace h := uu_neg c6 h
      refine uu_iload_n dX12_isLocal_14 rfl (List.mem_of_getElem? (i := 0) rfl) ?_
      refine uu_bipush (v := 33) dX12_isLocal_15 (by decide) ?_
      refine uu_icmp_eq (tgt := 92) dX12_isLocal_17 (by decide) (fun c7 => ?_) (fun c7 => ?_)
      · replace h := uu_pos c7 h
        refine uu_iconst (v := 1) dX12_isLocal_92 (by decide) ?_
        refine uu_goto (tgt := 97) dX12_isLocal_93 (by decide) ?_
        have hr := Option.some.inj h
        subst hr
        exact uu_zret (x := bI true) rfl (bI_z _) dX12_isLocal_97
      · replace h := uu_neg c7 h
        refine uu_iload_n dX12_isLocal_20 rfl (List.mem_of_getElem? (i := 0) rfl) ?_
        refine uu_bipush (v := 35) dX12_isLocal_21 (by decide) ?_
        refine uu_icmp_lt (tgt := 32) dX12_isLocal_23 (by decide) (fun c8 => ?_) (fun c8 => ?_)
        · replace h := uu_pos c8 h
          exact xb_X12_isLocal_32 uk  h
        · replace h := uu_neg c8 h
          refine uu_iload_n dX12_isLocal_26 rfl (List.mem_of_getElem? (i := 0) rfl) ?_
          refine uu_bipush (v := 39) dX12_isLocal_27 (by decide) ?_
          refine uu_icmp_le (tgt := 92) dX12_isLocal_29 (by decide) (fun c9 => ?_) (fun c9 => ?_)
          · replace h := uu_pos c9 h
            refine uu_iconst (v := 1) dX12_isLocal_92 (by decide) ?_
            refine uu_goto (tgt := 97) dX12_isLocal_93 (by decide) ?_
            have hr := Option.some.inj h
            subst hr
            exact uu_zret (x := bI true) rfl (bI_z _) dX12_isLocal_97
          · replace h := uu_neg c9 h
            exact xb_X12_isLocal_32 uk  h
abbrev mX12_isDomain : hM := (yX12_isDomain, cX12_isDomain, 1, (some (.boolean)))
theorem dX12_isDomain_0 : decode cX12_isDomain 0 = .ok (.iload_n 0, 1) := by decide +kernel
theorem dX12_isDomain_1 : decode cX12_isDomain 1 = .ok (.invokestatic 133, 3) := by decide +kernel
theorem dX12_isDomain_4 : decode cX12_isDomain 4 = .ok (.ifCond .ne 16, 3) := by decide +kernel
theorem dX12_isDomain_20 : decode cX12_isDomain 20 = .ok (.iconst 1, 1) := by decide +kernel
theorem dX12_isDomain_21 : decode cX12_isDomain 21 = .ok (.goto 4, 3) := by decide +kernel
theorem dX12_isDomain_25 : decode cX12_isDomain 25 = .ok (.ireturn, 1) := by decide +kernel
theorem dX12_isDomain_7 : decode cX12_isDomain 7 = .ok (.iload_n 0, 1) := by decide +kernel
theorem dX12_isDomain_8 : decode cX12_isDomain 8 = .ok (.invokestatic 137, 3) := by decide +kernel
theorem dX12_isDomain_11 : decode cX12_isDomain 11 = .ok (.ifCond .ne 9, 3) := by decide +kernel
theorem dX12_isDomain_14 : decode cX12_isDomain 14 = .ok (.iload_n 0, 1) := by decide +kernel
theorem dX12_isDomain_15 : decode cX12_isDomain 15 = .ok (.bipush 45, 2) := by decide +kernel
theorem dX12_isDomain_17 : decode cX12_isDomain 17 = .ok (.if_icmp .ne 7, 3) := by decide +kernel
theorem dX12_isDomain_24 : decode cX12_isDomain 24 = .ok (.iconst 0, 1) := by decide +kernel
def fn_X12_isDomain (x0 : Int32) (s : uS) : Option Bool := (fn_X12_isLetter x0 s).bind fun v1 => if v1 = true then (some true) else ((fn_X12_isDigit x0 s).bind fun v4 => if v4 = true then (some true) else (if x0 = 45 then (some true) else (some false)))
set_option maxRecDepth 100000 in
set_option maxHeartbeats 4000000 in
theorem xc_X12_isDomain {l : Launch} {D : va_G} {A : Nat → ClassId} {B : Nat} {Z : State → Heap → Prop} {vF : Value} (uk : uK B Z vF) {x0 : Int32} {s : uS} {r : Bool}  (h : fn_X12_isDomain x0 s = some r) : CU l D A B Z 1 mX12_isDomain s [.int x0] (s, some (.int (bI r))) := by
  unfold fn_X12_isDomain at h
  refine cu_of rfl uk.1.1 (Nat.le_of_ble_eq_true rfl) ?_
  show GU _ _ _ _ _ _ _ _ _ 0 [(0, .int x0)] []
  refine uu_iload_n dX12_isDomain_0 rfl (List.mem_of_getElem? (i := 0) rfl) ?_
  obtain ⟨v1, e2, h⟩ := uu_ob h
  refine uu_cs (d1 := 0) (As := [.int x0]) (st := []) (st' := [.int (bI v1)]) (xc_X12_isLetter uk  e2) kX12_isLetter lX12_133 sX12_isLetter (by decide) (Nat.le_of_ble_eq_true rfl) dX12_isDomain_1 rfl ?_
  refine uu_ifb_ne (tgt := 20) dX12_isDomain_4 (by decide) (fun c3 => ?_) (fun c3 => ?_)
  · replace h := uu_pos c3 h
    refine uu_iconst (v := 1) dX12_isDomain_20 (by decide) ?_
    refine uu_goto (tgt := 25) dX12_isDomain_21 (by decide) ?_
    have hr := Option.some.inj h
    subst hr
    exact uu_zret (x := bI true) rfl (bI_z _) dX12_isDomain_25
  · replace h := uu_neg c3 h
    refine uu_iload_n dX12_isDomain_7 rfl (List.mem_of_getElem? (i := 0) rfl) ?_
    obtain ⟨v4, e5, h⟩ := uu_ob h
    refine uu_cs (d1 := 0) (As := [.int x0]) (st := []) (st' := [.int (bI v4)]) (xc_X12_isDigit uk  e5) kX12_isDigit lX12_137 sX12_isDigit (by decide) (Nat.le_of_ble_eq_true rfl) dX12_isDomain_8 rfl ?_
    refine uu_ifb_ne (tgt := 20) dX12_isDomain_11 (by decide) (fun c6 => ?_) (fun c6 => ?_)
    · replace h := uu_pos c6 h
      refine uu_iconst (v := 1) dX12_isDomain_20 (by decide) ?_
      refine uu_goto (tgt := 25) dX12_isDomain_21 (by decide) ?_
      have hr := Option.some.inj h
      subst hr
      exact uu_zret (x := bI true) rfl (bI_z _) dX12_isDomain_25
    · replace h := uu_neg c6 h
      refine uu_iload_n dX12_isDomain_14 rfl (List.mem_of_getElem? (i := 0) rfl) ?_
      refine uu_bipush (v := 45) dX12_isDomain_15 (by decide) ?_
      refine uu_icmp_ne (tgt := 24) dX12_isDomain_17 (by decide) (fun c7 => ?_) (fun c7 => ?_)
      · replace h := uu_neg c7 h
        refine uu_iconst (v := 0) dX12_isDomain_24 (by decide) ?_
        have hr := Option.some.inj h
        subst hr
        exact uu_zret (x := bI false) rfl (bI_z _) dX12_isDomain_25
      · replace h := uu_pos c7 h
        refine uu_iconst (v := 1) dX12_isDomain_20 (by decide) ?_
        refine uu_goto (tgt := 25) dX12_isDomain_21 (by decide) ?_
        have hr := Option.some.inj h
        subst hr
        exact uu_zret (x := bI true) rfl (bI_z _) dX12_isDomain_25
abbrev mX12_isDotted : hM := (yX12_isDotted, cX12_isDotted, 8, (some (.boolean)))
theorem dX12_isDotted_50 : decode cX12_isDotted 50 = .ok (.istore 7, 2) := by decide +kernel
theorem dX12_isDotted_52 : decode cX12_isDotted 52 = .ok (.iload 7, 2) := by decide +kernel
theorem dX12_isDotted_54 : decode cX12_isDotted 54 = .ok (.ifCond .eq 39, 3) := by decide +kernel
theorem dX12_isDotted_93 : decode cX12_isDotted 93 = .ok (.iload 4, 2) := by decide +kernel
theorem dX12_isDotted_95 : decode cX12_isDotted 95 = .ok (.ifCond .eq 16, 3) := by decide +kernel
theorem dX12_isDotted_111 : decode cX12_isDotted 111 = .ok (.aload_n 0, 1) := by decide +kernel
theorem dX12_isDotted_112 : decode cX12_isDotted 112 = .ok (.getfield 116, 3) := by decide +kernel
theorem dX12_isDotted_115 : decode cX12_isDotted 115 = .ok (.iload 6, 2) := by decide +kernel
theorem dX12_isDotted_117 : decode cX12_isDotted 117 = .ok (.iaload, 1) := by decide +kernel
theorem kX12_isDomain : h_ml mX12_isDomain 1 := ⟨h_t9 66 rfl rfl, h_t1 16 rfl rfl, ⟨by decide, by decide, by decide +kernel⟩, by decide⟩
theorem lX12_143 : Cond.methodLink RX12 143 mX12_isDomain.1 ∈ lw_g := h_t9 64 rfl rfl
theorem sX12_isDomain : Cond.static mX12_isDomain.1 ∈ lw_g := h_t9 65 rfl rfl
theorem dX12_isDotted_118 : decode cX12_isDotted 118 = .ok (.invokestatic 143, 3) := by decide +kernel
theorem dX12_isDotted_121 : decode cX12_isDotted 121 = .ok (.istore 5, 2) := by decide +kernel
theorem dX12_isDotted_123 : decode cX12_isDotted 123 = .ok (.iinc 6 1, 3) := by decide +kernel
theorem dX12_isDotted_126 : decode cX12_isDotted 126 = .ok (.goto (-104), 3) := by decide +kernel
theorem dX12_isDotted_98 : decode cX12_isDotted 98 = .ok (.aload_n 0, 1) := by decide +kernel
theorem dX12_isDotted_99 : decode cX12_isDotted 99 = .ok (.getfield 116, 3) := by decide +kernel
theorem dX12_isDotted_102 : decode cX12_isDotted 102 = .ok (.iload 6, 2) := by decide +kernel
theorem dX12_isDotted_104 : decode cX12_isDotted 104 = .ok (.iaload, 1) := by decide +kernel
theorem kX12_isLocal : h_ml mX12_isLocal 1 := ⟨h_t9 63 rfl rfl, h_t1 16 rfl rfl, ⟨by decide, by decide, by decide +kernel⟩, by decide⟩
theorem lX12_140 : Cond.methodLink RX12 140 mX12_isLocal.1 ∈ lw_g := h_t9 61 rfl rfl
theorem sX12_isLocal : Cond.static mX12_isLocal.1 ∈ lw_g := h_t9 62 rfl rfl
theorem dX12_isDotted_105 : decode cX12_isDotted 105 = .ok (.invokestatic 140, 3) := by decide +kernel
theorem dX12_isDotted_108 : decode cX12_isDotted 108 = .ok (.goto 13, 3) := by decide +kernel
theorem dX12_isDotted_57 : decode cX12_isDotted 57 = .ok (.iload 6, 2) := by decide +kernel
theorem dX12_isDotted_59 : decode cX12_isDotted 59 = .ok (.iload_n 1, 1) := by decide +kernel
theorem dX12_isDotted_60 : decode cX12_isDotted 60 = .ok (.if_icmp .le 29, 3) := by decide +kernel
theorem dX12_isDotted_89 : decode cX12_isDotted 89 = .ok (.iconst 0, 1) := by decide +kernel
theorem dX12_isDotted_90 : decode cX12_isDotted 90 = .ok (.goto 31, 3) := by decide +kernel
theorem dX12_isDotted_63 : decode cX12_isDotted 63 = .ok (.iload 6, 2) := by decide +kernel
theorem dX12_isDotted_65 : decode cX12_isDotted 65 = .ok (.iconst 1, 1) := by decide +kernel
theorem dX12_isDotted_66 : decode cX12_isDotted 66 = .ok (.iadd, 1) := by decide +kernel
theorem dX12_isDotted_67 : decode cX12_isDotted 67 = .ok (.iload_n 2, 1) := by decide +kernel
theorem dX12_isDotted_68 : decode cX12_isDotted 68 = .ok (.if_icmp .ge 21, 3) := by decide +kernel
theorem dX12_isDotted_71 : decode cX12_isDotted 71 = .ok (.aload_n 0, 1) := by decide +kernel
theorem dX12_isDotted_72 : decode cX12_isDotted 72 = .ok (.getfield 116, 3) := by decide +kernel
theorem dX12_isDotted_75 : decode cX12_isDotted 75 = .ok (.iload 6, 2) := by decide +kernel
theorem dX12_isDotted_77 : decode cX12_isDotted 77 = .ok (.iconst 1, 1) := by decide +kernel
theorem dX12_isDotted_78 : decode cX12_isDotted 78 = .ok (.isub, 1) := by decide +kernel
theorem dX12_isDotted_79 : decode cX12_isDotted 79 = .ok (.iaload, 1) := by decide +kernel
theorem dX12_isDotted_80 : decode cX12_isDotted 80 = .ok (.bipush 46, 2) := by decide +kernel
theorem dX12_isDotted_82 : decode cX12_isDotted 82 = .ok (.if_icmp .eq 7, 3) := by decide +kernel
theorem dX12_isDotted_85 : decode cX12_isDotted 85 = .ok (.iconst 1, 1) := by decide +kernel
theorem dX12_isDotted_86 : decode cX12_isDotted 86 = .ok (.goto 35, 3) := by decide +kernel
theorem dX12_isDotted_22 : decode cX12_isDotted 22 = .ok (.iload 6, 2) := by decide +kernel
theorem dX12_isDotted_24 : decode cX12_isDotted 24 = .ok (.iload_n 2, 1) := by decide +kernel
theorem dX12_isDotted_25 : decode cX12_isDotted 25 = .ok (.if_icmp .ge 104, 3) := by decide +kernel
theorem dX12_isDotted_129 : decode cX12_isDotted 129 = .ok (.iload 5, 2) := by decide +kernel
theorem dX12_isDotted_131 : decode cX12_isDotted 131 = .ok (.ireturn, 1) := by decide +kernel
theorem dX12_isDotted_28 : decode cX12_isDotted 28 = .ok (.iload 5, 2) := by decide +kernel
theorem dX12_isDotted_30 : decode cX12_isDotted 30 = .ok (.ifCond .eq 99, 3) := by decide +kernel
theorem dX12_isDotted_33 : decode cX12_isDotted 33 = .ok (.aload_n 0, 1) := by decide +kernel
theorem dX12_isDotted_34 : decode cX12_isDotted 34 = .ok (.getfield 116, 3) := by decide +kernel
theorem dX12_isDotted_37 : decode cX12_isDotted 37 = .ok (.iload 6, 2) := by decide +kernel
theorem dX12_isDotted_39 : decode cX12_isDotted 39 = .ok (.iaload, 1) := by decide +kernel
theorem dX12_isDotted_40 : decode cX12_isDotted 40 = .ok (.bipush 46, 2) := by decide +kernel
theorem dX12_isDotted_42 : decode cX12_isDotted 42 = .ok (.if_icmp .ne 7, 3) := by decide +kernel
theorem dX12_isDotted_49 : decode cX12_isDotted 49 = .ok (.iconst 0, 1) := by decide +kernel
theorem dX12_isDotted_45 : decode cX12_isDotted 45 = .ok (.iconst 1, 1) := by decide +kernel
theorem dX12_isDotted_46 : decode cX12_isDotted 46 = .ok (.goto 4, 3) := by decide +kernel
theorem dX12_isDotted_0 : decode cX12_isDotted 0 = .ok (.iload_n 2, 1) := by decide +kernel
theorem dX12_isDotted_1 : decode cX12_isDotted 1 = .ok (.iload_n 1, 1) := by decide +kernel
theorem dX12_isDotted_2 : decode cX12_isDotted 2 = .ok (.if_icmp .le 14, 3) := by decide +kernel
theorem dX12_isDotted_16 : decode cX12_isDotted 16 = .ok (.iconst 0, 1) := by decide +kernel
theorem dX12_isDotted_17 : decode cX12_isDotted 17 = .ok (.istore 5, 2) := by decide +kernel
theorem dX12_isDotted_19 : decode cX12_isDotted 19 = .ok (.iload_n 1, 1) := by decide +kernel
theorem dX12_isDotted_20 : decode cX12_isDotted 20 = .ok (.istore 6, 2) := by decide +kernel
theorem dX12_isDotted_5 : decode cX12_isDotted 5 = .ok (.iload_n 2, 1) := by decide +kernel
theorem dX12_isDotted_6 : decode cX12_isDotted 6 = .ok (.iload_n 1, 1) := by decide +kernel
theorem dX12_isDotted_7 : decode cX12_isDotted 7 = .ok (.isub, 1) := by decide +kernel
theorem dX12_isDotted_8 : decode cX12_isDotted 8 = .ok (.iload_n 3, 1) := by decide +kernel
theorem dX12_isDotted_9 : decode cX12_isDotted 9 = .ok (.if_icmp .gt 7, 3) := by decide +kernel
theorem dX12_isDotted_12 : decode cX12_isDotted 12 = .ok (.iconst 1, 1) := by decide +kernel
theorem dX12_isDotted_13 : decode cX12_isDotted 13 = .ok (.goto 4, 3) := by decide +kernel
def fb_X12_isDotted_50 (K22 : Int32 → Int32 → Bool → Bool → Int32 → uS → Option Bool) (x1 : Int32) (x2 : Int32) (b4 : Bool) (x6 : Int32) (bs0 : Bool) (s : uS) : Option Bool := if bs0 = true then (if x6 ≤ x1 then (K22 x1 x2 b4 false (x6 + 1) s) else (if x2 ≤ (x6 + 1) then (K22 x1 x2 b4 false (x6 + 1) s) else ((iget 20 s 1093 (x6 - 1)).bind fun v13 => if v13 = 46 then (K22 x1 x2 b4 false (x6 + 1) s) else (K22 x1 x2 b4 true (x6 + 1) s)))) else (if b4 = true then ((iget 20 s 1093 x6).bind fun v7 => (fn_X12_isLocal v7 s).bind fun v9 => K22 x1 x2 b4 v9 (x6 + 1) s) else ((iget 20 s 1093 x6).bind fun v3 => (fn_X12_isDomain v3 s).bind fun v5 => K22 x1 x2 b4 v5 (x6 + 1) s))
set_option maxRecDepth 100000 in
set_option maxHeartbeats 4000000 in
theorem xb_X12_isDotted_50 {l : Launch} {D : va_G} {A : Nat → ClassId} {B : Nat} {Z : State → Heap → Prop} {vF : Value} (uk : uK B Z vF) {K22 : Int32 → Int32 → Bool → Bool → Int32 → uS → Option Bool} (hK22 : ∀ (x1 : Int32) (x2 : Int32) (b4 : Bool) (b5 : Bool) (x6 : Int32)  (s : uS) (r : Bool), K22 x1 x2 b4 b5 x6 s = some r → GU l D A B Z mX12_isDotted 2 (s, some (.int (bI r))) s 22 [(0, .ref (B + 1079)), (1, .int x1), (2, .int x2), (4, .int (bI b4)), (5, .int (bI b5)), (6, .int x6)] []) {x1 : Int32} {x2 : Int32} {b4 : Bool} {x6 : Int32} {bs0 : Bool} {s : uS} {r : Bool}  (h : fb_X12_isDotted_50 K22 x1 x2 b4 x6 bs0 s = some r) : GU l D A B Z mX12_isDotted 2 (s, some (.int (bI r))) s 50 [(0, .ref (B + 1079)), (1, .int x1), (2, .int x2), (4, .int (bI b4)), (6, .int x6)] [.int (bI bs0)] := by
  unfold fb_X12_isDotted_50 at h
  refine uu_istore dX12_isDotted_50 (by decide) rfl ?_
  refine uu_iload dX12_isDotted_52 (List.mem_of_getElem? (i := 0) rfl) ?_
  refine uu_ifb_eq (tgt := 93) dX12_isDotted_54 (by decide) (fun c1 => ?_) (fun c1 => ?_)
  · replace h := uu_neg c1 h
    refine uu_iload dX12_isDotted_93 (List.mem_of_getElem? (i := 4) rfl) ?_
    refine uu_ifb_eq (tgt := 111) dX12_isDotted_95 (by decide) (fun c2 => ?_) (fun c2 => ?_)
    · replace h := uu_neg c2 h
      refine uu_aload_n dX12_isDotted_111 rfl (List.mem_of_getElem? (i := 1) rfl) ?_
      refine uu_geta (ci := 12) (N := 153) fX12_116 (by decide) so_1079.is (by decide) (c := 1093) (by decide) dX12_isDotted_112 ?_
      refine uu_iload dX12_isDotted_115 (List.mem_of_getElem? (i := 5) rfl) ?_
      obtain ⟨v3, e4, h⟩ := uu_ob h
      refine uu_iald e4 dX12_isDotted_117 ?_
      obtain ⟨v5, e6, h⟩ := uu_ob h
      refine uu_cs (d1 := 1) (As := [.int v3]) (st := []) (st' := [.int (bI v5)]) (xc_X12_isDomain uk  e6) kX12_isDomain lX12_143 sX12_isDomain (by decide) (Nat.le_of_ble_eq_true rfl) dX12_isDotted_118 rfl ?_
      refine uu_istore dX12_isDotted_121 (by decide) rfl ?_
      refine uu_iinc (v := x6 + 1) dX12_isDotted_123 (k := 6) rfl rfl (by decide) rfl ?_
      refine uu_goto (tgt := 22) dX12_isDotted_126 (by decide) ?_
      refine uu_lv [3, 4, 5, 6, 1, 0] (lv' := [(0, .ref (B + 1079)), (1, .int x1), (2, .int x2), (4, .int (bI b4)), (5, .int (bI v5)), (6, .int (x6 + 1))]) rfl ?_
      exact hK22 x1 x2 b4 v5 (x6 + 1) _ _ h
    · replace h := uu_pos c2 h
      refine uu_aload_n dX12_isDotted_98 rfl (List.mem_of_getElem? (i := 1) rfl) ?_
      refine uu_geta (ci := 12) (N := 153) fX12_116 (by decide) so_1079.is (by decide) (c := 1093) (by decide) dX12_isDotted_99 ?_
      refine uu_iload dX12_isDotted_102 (List.mem_of_getElem? (i := 5) rfl) ?_
      obtain ⟨v7, e8, h⟩ := uu_ob h
      refine uu_iald e8 dX12_isDotted_104 ?_
      obtain ⟨v9, e10, h⟩ := uu_ob h
      refine uu_cs (d1 := 1) (As := [.int v7]) (st := []) (st' := [.int (bI v9)]) (xc_X12_isLocal uk  e10) kX12_isLocal lX12_140 sX12_isLocal (by decide) (Nat.le_of_ble_eq_true rfl) dX12_isDotted_105 rfl ?_
      refine uu_goto (tgt := 121) dX12_isDotted_108 (by decide) ?_
      refine uu_istore dX12_isDotted_121 (by decide) rfl ?_
      refine uu_iinc (v := x6 + 1) dX12_isDotted_123 (k := 6) rfl rfl (by decide) rfl ?_
      refine uu_goto (tgt := 22) dX12_isDotted_126 (by decide) ?_
      refine uu_lv [3, 4, 5, 6, 1, 0] (lv' := [(0, .ref (B + 1079)), (1, .int x1), (2, .int x2), (4, .int (bI b4)), (5, .int (bI v9)), (6, .int (x6 + 1))]) rfl ?_
      exact hK22 x1 x2 b4 v9 (x6 + 1) _ _ h
  · replace h := uu_pos c1 h
    refine uu_iload dX12_isDotted_57 (List.mem_of_getElem? (i := 5) rfl) ?_
    refine uu_iload_n dX12_isDotted_59 rfl (List.mem_of_getElem? (i := 2) rfl) ?_
    refine uu_icmp_le (tgt := 89) dX12_isDotted_60 (by decide) (fun c11 => ?_) (fun c11 => ?_)
    · replace h := uu_pos c11 h
      refine uu_iconst (v := 0) dX12_isDotted_89 (by decide) ?_
      refine uu_goto (tgt := 121) dX12_isDotted_90 (by decide) ?_
      refine uu_istore dX12_isDotted_121 (by decide) rfl ?_
      refine uu_iinc (v := x6 + 1) dX12_isDotted_123 (k := 6) rfl rfl (by decide) rfl ?_
      refine uu_goto (tgt := 22) dX12_isDotted_126 (by decide) ?_
      refine uu_lv [3, 4, 5, 6, 1, 0] (lv' := [(0, .ref (B + 1079)), (1, .int x1), (2, .int x2), (4, .int (bI b4)), (5, .int 0), (6, .int (x6 + 1))]) rfl ?_
      exact hK22 x1 x2 b4 false (x6 + 1) _ _ h
    · replace h := uu_neg c11 h
      refine uu_iload dX12_isDotted_63 (List.mem_of_getElem? (i := 5) rfl) ?_
      refine uu_iconst (v := 1) dX12_isDotted_65 (by decide) ?_
      refine uu_iadd dX12_isDotted_66 ?_
      refine uu_iload_n dX12_isDotted_67 rfl (List.mem_of_getElem? (i := 3) rfl) ?_
      refine uu_icmp_ge (tgt := 89) dX12_isDotted_68 (by decide) (fun c12 => ?_) (fun c12 => ?_)
      · replace h := uu_pos c12 h
        refine uu_iconst (v := 0) dX12_isDotted_89 (by decide) ?_
        refine uu_goto (tgt := 121) dX12_isDotted_90 (by decide) ?_
        refine uu_istore dX12_isDotted_121 (by decide) rfl ?_
        refine uu_iinc (v := x6 + 1) dX12_isDotted_123 (k := 6) rfl rfl (by decide) rfl ?_
        refine uu_goto (tgt := 22) dX12_isDotted_126 (by decide) ?_
        refine uu_lv [3, 4, 5, 6, 1, 0] (lv' := [(0, .ref (B + 1079)), (1, .int x1), (2, .int x2), (4, .int (bI b4)), (5, .int 0), (6, .int (x6 + 1))]) rfl ?_
        exact hK22 x1 x2 b4 false (x6 + 1) _ _ h
      · replace h := uu_neg c12 h
        refine uu_aload_n dX12_isDotted_71 rfl (List.mem_of_getElem? (i := 1) rfl) ?_
        refine uu_geta (ci := 12) (N := 153) fX12_116 (by decide) so_1079.is (by decide) (c := 1093) (by decide) dX12_isDotted_72 ?_
        refine uu_iload dX12_isDotted_75 (List.mem_of_getElem? (i := 5) rfl) ?_
        refine uu_iconst (v := 1) dX12_isDotted_77 (by decide) ?_
        refine uu_isub dX12_isDotted_78 ?_
        obtain ⟨v13, e14, h⟩ := uu_ob h
        refine uu_iald e14 dX12_isDotted_79 ?_
        refine uu_bipush (v := 46) dX12_isDotted_80 (by decide) ?_
        refine uu_icmp_eq (tgt := 89) dX12_isDotted_82 (by decide) (fun c15 => ?_) (fun c15 => ?_)
        · replace h := uu_pos c15 h
          refine uu_iconst (v := 0) dX12_isDotted_89 (by decide) ?_
          refine uu_goto (tgt := 121) dX12_isDotted_90 (by decide) ?_
          refine uu_istore dX12_isDotted_121 (by decide) rfl ?_
          refine uu_iinc (v := x6 + 1) dX12_isDotted_123 (k := 6) rfl rfl (by decide) rfl ?_
          refine uu_goto (tgt := 22) dX12_isDotted_126 (by decide) ?_
          refine uu_lv [3, 4, 5, 6, 1, 0] (lv' := [(0, .ref (B + 1079)), (1, .int x1), (2, .int x2), (4, .int (bI b4)), (5, .int 0), (6, .int (x6 + 1))]) rfl ?_
          exact hK22 x1 x2 b4 false (x6 + 1) _ _ h
        · replace h := uu_neg c15 h
          refine uu_iconst (v := 1) dX12_isDotted_85 (by decide) ?_
          refine uu_goto (tgt := 121) dX12_isDotted_86 (by decide) ?_
          refine uu_istore dX12_isDotted_121 (by decide) rfl ?_
          refine uu_iinc (v := x6 + 1) dX12_isDotted_123 (k := 6) rfl rfl (by decide) rfl ?_
          refine uu_goto (tgt := 22) dX12_isDotted_126 (by decide) ?_
          refine uu_lv [3, 4, 5, 6, 1, 0] (lv' := [(0, .ref (B + 1079)), (1, .int x1), (2, .int x2), (4, .int (bI b4)), (5, .int 1), (6, .int (x6 + 1))]) rfl ?_
          exact hK22 x1 x2 b4 true (x6 + 1) _ _ h
def fb_X12_isDotted_22 (K22 : Int32 → Int32 → Bool → Bool → Int32 → uS → Option Bool) (x1 : Int32) (x2 : Int32) (b4 : Bool) (b5 : Bool) (x6 : Int32) (s : uS) : Option Bool := if x2 ≤ x6 then (some b5) else (if b5 = true then ((iget 20 s 1093 x6).bind fun v3 => if v3 = 46 then (fb_X12_isDotted_50 K22 x1 x2 b4 x6 true s) else (fb_X12_isDotted_50 K22 x1 x2 b4 x6 false s)) else (some b5))
set_option maxRecDepth 100000 in
set_option maxHeartbeats 4000000 in
theorem xb_X12_isDotted_22 {l : Launch} {D : va_G} {A : Nat → ClassId} {B : Nat} {Z : State → Heap → Prop} {vF : Value} (uk : uK B Z vF) {K22 : Int32 → Int32 → Bool → Bool → Int32 → uS → Option Bool} (hK22 : ∀ (x1 : Int32) (x2 : Int32) (b4 : Bool) (b5 : Bool) (x6 : Int32)  (s : uS) (r : Bool), K22 x1 x2 b4 b5 x6 s = some r → GU l D A B Z mX12_isDotted 2 (s, some (.int (bI r))) s 22 [(0, .ref (B + 1079)), (1, .int x1), (2, .int x2), (4, .int (bI b4)), (5, .int (bI b5)), (6, .int x6)] []) {x1 : Int32} {x2 : Int32} {b4 : Bool} {b5 : Bool} {x6 : Int32} {s : uS} {r : Bool}  (h : fb_X12_isDotted_22 K22 x1 x2 b4 b5 x6 s = some r) : GU l D A B Z mX12_isDotted 2 (s, some (.int (bI r))) s 22 [(0, .ref (B + 1079)), (1, .int x1), (2, .int x2), (4, .int (bI b4)), (5, .int (bI b5)), (6, .int x6)] [] := by
  unfold fb_X12_isDotted_22 at h
  refine uu_iload dX12_isDotted_22 (List.mem_of_getElem? (i := 5) rfl) ?_
  refine uu_iload_n dX12_isDotted_24 rfl (List.mem_of_getElem? (i := 2) rfl) ?_
  refine uu_icmp_ge (tgt := 129) dX12_isDotted_25 (by decide) (fun c1 => ?_) (fun c1 => ?_)
  · replace h := uu_pos c1 h
    refine uu_iload dX12_isDotted_129 (List.mem_of_getElem? (i := 4) rfl) ?_
    have hr := Option.some.inj h
    subst hr
    exact uu_zret (x := bI b5) rfl (bI_z _) dX12_isDotted_131
  · replace h := uu_neg c1 h
    refine uu_iload dX12_isDotted_28 (List.mem_of_getElem? (i := 4) rfl) ?_
    refine uu_ifb_eq (tgt := 129) dX12_isDotted_30 (by decide) (fun c2 => ?_) (fun c2 => ?_)
    · replace h := uu_neg c2 h
      refine uu_iload dX12_isDotted_129 (List.mem_of_getElem? (i := 4) rfl) ?_
      have hr := Option.some.inj h
      subst hr
      exact uu_zret (x := bI b5) rfl (bI_z _) dX12_isDotted_131
    · replace h := uu_pos c2 h
      refine uu_aload_n dX12_isDotted_33 rfl (List.mem_of_getElem? (i := 0) rfl) ?_
      refine uu_geta (ci := 12) (N := 153) fX12_116 (by decide) so_1079.is (by decide) (c := 1093) (by decide) dX12_isDotted_34 ?_
      refine uu_iload dX12_isDotted_37 (List.mem_of_getElem? (i := 5) rfl) ?_
      obtain ⟨v3, e4, h⟩ := uu_ob h
      refine uu_iald e4 dX12_isDotted_39 ?_
      refine uu_bipush (v := 46) dX12_isDotted_40 (by decide) ?_
      refine uu_icmp_ne (tgt := 49) dX12_isDotted_42 (by decide) (fun c5 => ?_) (fun c5 => ?_)
      · replace h := uu_neg c5 h
        refine uu_iconst (v := 0) dX12_isDotted_49 (by decide) ?_
        refine uu_lv [0, 1, 2, 3, 5] (lv' := [(0, .ref (B + 1079)), (1, .int x1), (2, .int x2), (4, .int (bI b4)), (6, .int x6)]) rfl ?_
        exact xb_X12_isDotted_50 uk hK22 h
      · replace h := uu_pos c5 h
        refine uu_iconst (v := 1) dX12_isDotted_45 (by decide) ?_
        refine uu_goto (tgt := 50) dX12_isDotted_46 (by decide) ?_
        refine uu_lv [0, 1, 2, 3, 5] (lv' := [(0, .ref (B + 1079)), (1, .int x1), (2, .int x2), (4, .int (bI b4)), (6, .int x6)]) rfl ?_
        exact xb_X12_isDotted_50 uk hK22 h
def fn_X12_isDotted_22  : Nat → Int32 → Int32 → Bool → Bool → Int32 → uS → Option Bool
  | 0 => fun _ _ _ _ _ _ => none
  | n + 1 => fb_X12_isDotted_22 (fn_X12_isDotted_22  n)
set_option maxRecDepth 100000 in
set_option maxHeartbeats 4000000 in
theorem xn_X12_isDotted_22 {l : Launch} {D : va_G} {A : Nat → ClassId} {B : Nat} {Z : State → Heap → Prop} {vF : Value} (uk : uK B Z vF)   : ∀ (n : Nat) (x1 : Int32) (x2 : Int32) (b4 : Bool) (b5 : Bool) (x6 : Int32)  (s : uS) (r : Bool), fn_X12_isDotted_22  n x1 x2 b4 b5 x6 s = some r → GU l D A B Z mX12_isDotted 2 (s, some (.int (bI r))) s 22 [(0, .ref (B + 1079)), (1, .int x1), (2, .int x2), (4, .int (bI b4)), (5, .int (bI b5)), (6, .int x6)] [] := by
  intro n
  induction n with
  | zero => intro x1 x2 b4 b5 x6 s r h
            cases h
  | succ n ih => intro x1 x2 b4 b5 x6 s r h
                 exact xb_X12_isDotted_22 uk ih  h
def fn_X12_isDotted (x1 : Int32) (x2 : Int32) (x3 : Int32) (b4 : Bool) (s : uS) : Option Bool := if x2 ≤ x1 then (fn_X12_isDotted_22 uFu x1 x2 b4 false x1 s) else (if x3 < (x2 - x1) then (fn_X12_isDotted_22 uFu x1 x2 b4 false x1 s) else (fn_X12_isDotted_22 uFu x1 x2 b4 true x1 s))
set_option maxRecDepth 100000 in
set_option maxHeartbeats 4000000 in
theorem xc_X12_isDotted {l : Launch} {D : va_G} {A : Nat → ClassId} {B : Nat} {Z : State → Heap → Prop} {vF : Value} (uk : uK B Z vF) {x1 : Int32} {x2 : Int32} {x3 : Int32} {b4 : Bool} {s : uS} {r : Bool}  (h : fn_X12_isDotted x1 x2 x3 b4 s = some r) : CU l D A B Z 2 mX12_isDotted s [.ref (B + 1079), .int x1, .int x2, .int x3, .int (bI b4)] (s, some (.int (bI r))) := by
  unfold fn_X12_isDotted at h
  refine cu_of rfl uk.1.1 (Nat.le_of_ble_eq_true rfl) ?_
  show GU _ _ _ _ _ _ _ _ _ 0 [(0, .ref (B + 1079)), (1, .int x1), (2, .int x2), (3, .int x3), (4, .int (bI b4))] []
  refine uu_iload_n dX12_isDotted_0 rfl (List.mem_of_getElem? (i := 2) rfl) ?_
  refine uu_iload_n dX12_isDotted_1 rfl (List.mem_of_getElem? (i := 1) rfl) ?_
  refine uu_icmp_le (tgt := 16) dX12_isDotted_2 (by decide) (fun c1 => ?_) (fun c1 => ?_)
  · replace h := uu_pos c1 h
    refine uu_iconst (v := 0) dX12_isDotted_16 (by decide) ?_
    refine uu_istore dX12_isDotted_17 (by decide) rfl ?_
    refine uu_iload_n dX12_isDotted_19 rfl (List.mem_of_getElem? (i := 2) rfl) ?_
    refine uu_istore dX12_isDotted_20 (by decide) rfl ?_
    refine uu_lv [2, 3, 4, 6, 1, 0] (lv' := [(0, .ref (B + 1079)), (1, .int x1), (2, .int x2), (4, .int (bI b4)), (5, .int 0), (6, .int x1)]) rfl ?_
    exact xn_X12_isDotted_22 uk  _ _ _ _ _ _ _ _ h
  · replace h := uu_neg c1 h
    refine uu_iload_n dX12_isDotted_5 rfl (List.mem_of_getElem? (i := 2) rfl) ?_
    refine uu_iload_n dX12_isDotted_6 rfl (List.mem_of_getElem? (i := 1) rfl) ?_
    refine uu_isub dX12_isDotted_7 ?_
    refine uu_iload_n dX12_isDotted_8 rfl (List.mem_of_getElem? (i := 3) rfl) ?_
    refine uu_icmp_gt (tgt := 16) dX12_isDotted_9 (by decide) (fun c2 => ?_) (fun c2 => ?_)
    · replace h := uu_pos c2 h
      refine uu_iconst (v := 0) dX12_isDotted_16 (by decide) ?_
      refine uu_istore dX12_isDotted_17 (by decide) rfl ?_
      refine uu_iload_n dX12_isDotted_19 rfl (List.mem_of_getElem? (i := 2) rfl) ?_
      refine uu_istore dX12_isDotted_20 (by decide) rfl ?_
      refine uu_lv [2, 3, 4, 6, 1, 0] (lv' := [(0, .ref (B + 1079)), (1, .int x1), (2, .int x2), (4, .int (bI b4)), (5, .int 0), (6, .int x1)]) rfl ?_
      exact xn_X12_isDotted_22 uk  _ _ _ _ _ _ _ _ h
    · replace h := uu_neg c2 h
      refine uu_iconst (v := 1) dX12_isDotted_12 (by decide) ?_
      refine uu_goto (tgt := 17) dX12_isDotted_13 (by decide) ?_
      refine uu_istore dX12_isDotted_17 (by decide) rfl ?_
      refine uu_iload_n dX12_isDotted_19 rfl (List.mem_of_getElem? (i := 2) rfl) ?_
      refine uu_istore dX12_isDotted_20 (by decide) rfl ?_
      refine uu_lv [2, 3, 4, 6, 1, 0] (lv' := [(0, .ref (B + 1079)), (1, .int x1), (2, .int x2), (4, .int (bI b4)), (5, .int 1), (6, .int x1)]) rfl ?_
      exact xn_X12_isDotted_22 uk  _ _ _ _ _ _ _ _ h
abbrev mX12_atOf : hM := (yX12_atOf, cX12_atOf, 2, (some (.int)))
theorem dX12_atOf_28 : decode cX12_atOf 28 = .ok (.iload_n 1, 1) := by decide +kernel
theorem dX12_atOf_29 : decode cX12_atOf 29 = .ok (.aload_n 0, 1) := by decide +kernel
theorem dX12_atOf_30 : decode cX12_atOf 30 = .ok (.getfield 110, 3) := by decide +kernel
theorem dX12_atOf_33 : decode cX12_atOf 33 = .ok (.if_icmp .ge 36, 3) := by decide +kernel
theorem dX12_atOf_69 : decode cX12_atOf 69 = .ok (.iconst (-1), 1) := by decide +kernel
theorem dX12_atOf_70 : decode cX12_atOf 70 = .ok (.ireturn, 1) := by decide +kernel
theorem dX12_atOf_36 : decode cX12_atOf 36 = .ok (.aload_n 0, 1) := by decide +kernel
theorem dX12_atOf_37 : decode cX12_atOf 37 = .ok (.iconst 0, 1) := by decide +kernel
theorem dX12_atOf_38 : decode cX12_atOf 38 = .ok (.iload_n 1, 1) := by decide +kernel
theorem dX12_atOf_39 : decode cX12_atOf 39 = .ok (.bipush 40, 2) := by decide +kernel
theorem dX12_atOf_41 : decode cX12_atOf 41 = .ok (.iconst 1, 1) := by decide +kernel
theorem kX12_isDotted : h_ml mX12_isDotted 4 := ⟨h_t9 60 rfl rfl, h_t1 16 rfl rfl, ⟨by decide, by decide, by decide +kernel⟩, by decide⟩
theorem lX12_146 : Cond.methodLink RX12 146 mX12_isDotted.1 ∈ lw_g := h_t9 57 rfl rfl
theorem sX12_isDotted : Cond.instanceMethod mX12_isDotted.1 ∈ lw_g ∧ Cond.selects mX12_isDotted.1.cls mX12_isDotted.1 mX12_isDotted.1 ∈ lw_g := ⟨h_t9 59 rfl rfl, h_ins 161 rfl⟩
theorem dX12_atOf_42 : decode cX12_atOf 42 = .ok (.invokevirtual 146, 3) := by decide +kernel
theorem dX12_atOf_45 : decode cX12_atOf 45 = .ok (.ifCond .eq 24, 3) := by decide +kernel
theorem dX12_atOf_48 : decode cX12_atOf 48 = .ok (.aload_n 0, 1) := by decide +kernel
theorem dX12_atOf_49 : decode cX12_atOf 49 = .ok (.iload_n 1, 1) := by decide +kernel
theorem dX12_atOf_50 : decode cX12_atOf 50 = .ok (.iconst 1, 1) := by decide +kernel
theorem dX12_atOf_51 : decode cX12_atOf 51 = .ok (.iadd, 1) := by decide +kernel
theorem dX12_atOf_52 : decode cX12_atOf 52 = .ok (.aload_n 0, 1) := by decide +kernel
theorem dX12_atOf_53 : decode cX12_atOf 53 = .ok (.getfield 110, 3) := by decide +kernel
theorem dX12_atOf_56 : decode cX12_atOf 56 = .ok (.bipush 60, 2) := by decide +kernel
theorem dX12_atOf_58 : decode cX12_atOf 58 = .ok (.iconst 0, 1) := by decide +kernel
theorem dX12_atOf_59 : decode cX12_atOf 59 = .ok (.invokevirtual 146, 3) := by decide +kernel
theorem dX12_atOf_62 : decode cX12_atOf 62 = .ok (.ifCond .eq 7, 3) := by decide +kernel
theorem dX12_atOf_65 : decode cX12_atOf 65 = .ok (.iload_n 1, 1) := by decide +kernel
theorem dX12_atOf_66 : decode cX12_atOf 66 = .ok (.goto 4, 3) := by decide +kernel
theorem dX12_atOf_2 : decode cX12_atOf 2 = .ok (.iload_n 1, 1) := by decide +kernel
theorem dX12_atOf_3 : decode cX12_atOf 3 = .ok (.aload_n 0, 1) := by decide +kernel
theorem dX12_atOf_4 : decode cX12_atOf 4 = .ok (.getfield 110, 3) := by decide +kernel
theorem dX12_atOf_7 : decode cX12_atOf 7 = .ok (.if_icmp .ge 21, 3) := by decide +kernel
theorem dX12_atOf_10 : decode cX12_atOf 10 = .ok (.aload_n 0, 1) := by decide +kernel
theorem dX12_atOf_11 : decode cX12_atOf 11 = .ok (.getfield 116, 3) := by decide +kernel
theorem dX12_atOf_14 : decode cX12_atOf 14 = .ok (.iload_n 1, 1) := by decide +kernel
theorem dX12_atOf_15 : decode cX12_atOf 15 = .ok (.iaload, 1) := by decide +kernel
theorem dX12_atOf_16 : decode cX12_atOf 16 = .ok (.bipush 64, 2) := by decide +kernel
theorem dX12_atOf_18 : decode cX12_atOf 18 = .ok (.if_icmp .eq 10, 3) := by decide +kernel
theorem dX12_atOf_21 : decode cX12_atOf 21 = .ok (.iload_n 1, 1) := by decide +kernel
theorem dX12_atOf_22 : decode cX12_atOf 22 = .ok (.iconst 1, 1) := by decide +kernel
theorem dX12_atOf_23 : decode cX12_atOf 23 = .ok (.iadd, 1) := by decide +kernel
theorem dX12_atOf_24 : decode cX12_atOf 24 = .ok (.istore_n 1, 1) := by decide +kernel
theorem dX12_atOf_25 : decode cX12_atOf 25 = .ok (.goto (-23), 3) := by decide +kernel
theorem dX12_atOf_0 : decode cX12_atOf 0 = .ok (.iconst 0, 1) := by decide +kernel
theorem dX12_atOf_1 : decode cX12_atOf 1 = .ok (.istore_n 1, 1) := by decide +kernel
def fb_X12_atOf_28  (x1 : Int32) (s : uS) : Option Int32 := if (s.I 1079 21) ≤ x1 then (some (-1 : Int32)) else ((fn_X12_isDotted 0 x1 40 true s).bind fun v2 => if v2 = true then ((fn_X12_isDotted (x1 + 1) (s.I 1079 21) 60 false s).bind fun v5 => if v5 = true then (some x1) else (some (-1 : Int32))) else (some (-1 : Int32)))
set_option maxRecDepth 100000 in
set_option maxHeartbeats 4000000 in
theorem xb_X12_atOf_28 {l : Launch} {D : va_G} {A : Nat → ClassId} {B : Nat} {Z : State → Heap → Prop} {vF : Value} (uk : uK B Z vF)   {x1 : Int32} {s : uS} {r : Int32}  (h : fb_X12_atOf_28  x1 s = some r) : GU l D A B Z mX12_atOf 3 (s, some (.int r)) s 28 [(0, .ref (B + 1079)), (1, .int x1)] [] := by
  unfold fb_X12_atOf_28 at h
  refine uu_iload_n dX12_atOf_28 rfl (List.mem_of_getElem? (i := 1) rfl) ?_
  refine uu_aload_n dX12_atOf_29 rfl (List.mem_of_getElem? (i := 0) rfl) ?_
  refine uu_geti (ci := 12) (N := 153) fX12_110 (by decide) so_1079.is (by decide) (by decide) dX12_atOf_30 ?_
  refine uu_icmp_ge (tgt := 69) dX12_atOf_33 (by decide) (fun c1 => ?_) (fun c1 => ?_)
  · replace h := uu_pos c1 h
    refine uu_iconst (v := -1) dX12_atOf_69 (by decide) ?_
    have hr := Option.some.inj h
    subst hr
    exact uu_iret rfl dX12_atOf_70
  · replace h := uu_neg c1 h
    refine uu_aload_n dX12_atOf_36 rfl (List.mem_of_getElem? (i := 0) rfl) ?_
    refine uu_iconst (v := 0) dX12_atOf_37 (by decide) ?_
    refine uu_iload_n dX12_atOf_38 rfl (List.mem_of_getElem? (i := 1) rfl) ?_
    refine uu_bipush (v := 40) dX12_atOf_39 (by decide) ?_
    refine uu_iconst (v := 1) dX12_atOf_41 (by decide) ?_
    obtain ⟨v2, e3, h⟩ := uu_ob h
    refine uu_cv (d1 := 2) (k := 1079) (ci := 12) (T := TX12) (N := 153) (As := [.int 0, .int x1, .int 40, .int 1]) (st := []) (st' := [.int (bI v2)]) (xc_X12_isDotted uk  e3) so_1079.is (by decide) rfl kX12_isDotted lX12_146 sX12_isDotted (by decide) (Nat.le_of_ble_eq_true rfl) dX12_atOf_42 rfl ?_
    refine uu_ifb_eq (tgt := 69) dX12_atOf_45 (by decide) (fun c4 => ?_) (fun c4 => ?_)
    · replace h := uu_neg c4 h
      refine uu_iconst (v := -1) dX12_atOf_69 (by decide) ?_
      have hr := Option.some.inj h
      subst hr
      exact uu_iret rfl dX12_atOf_70
    · replace h := uu_pos c4 h
      refine uu_aload_n dX12_atOf_48 rfl (List.mem_of_getElem? (i := 0) rfl) ?_
      refine uu_iload_n dX12_atOf_49 rfl (List.mem_of_getElem? (i := 1) rfl) ?_
      refine uu_iconst (v := 1) dX12_atOf_50 (by decide) ?_
      refine uu_iadd dX12_atOf_51 ?_
      refine uu_aload_n dX12_atOf_52 rfl (List.mem_of_getElem? (i := 0) rfl) ?_
      refine uu_geti (ci := 12) (N := 153) fX12_110 (by decide) so_1079.is (by decide) (by decide) dX12_atOf_53 ?_
      refine uu_bipush (v := 60) dX12_atOf_56 (by decide) ?_
      refine uu_iconst (v := 0) dX12_atOf_58 (by decide) ?_
      obtain ⟨v5, e6, h⟩ := uu_ob h
      refine uu_cv (d1 := 2) (k := 1079) (ci := 12) (T := TX12) (N := 153) (As := [.int (x1 + 1), .int (s.I 1079 21), .int 60, .int 0]) (st := []) (st' := [.int (bI v5)]) (xc_X12_isDotted uk  e6) so_1079.is (by decide) rfl kX12_isDotted lX12_146 sX12_isDotted (by decide) (Nat.le_of_ble_eq_true rfl) dX12_atOf_59 rfl ?_
      refine uu_ifb_eq (tgt := 69) dX12_atOf_62 (by decide) (fun c7 => ?_) (fun c7 => ?_)
      · replace h := uu_neg c7 h
        refine uu_iconst (v := -1) dX12_atOf_69 (by decide) ?_
        have hr := Option.some.inj h
        subst hr
        exact uu_iret rfl dX12_atOf_70
      · replace h := uu_pos c7 h
        refine uu_iload_n dX12_atOf_65 rfl (List.mem_of_getElem? (i := 1) rfl) ?_
        refine uu_goto (tgt := 70) dX12_atOf_66 (by decide) ?_
        have hr := Option.some.inj h
        subst hr
        exact uu_iret rfl dX12_atOf_70
def fb_X12_atOf_2 (K2 : Int32 → uS → Option Int32) (x1 : Int32) (s : uS) : Option Int32 := if (s.I 1079 21) ≤ x1 then (fb_X12_atOf_28 x1 s) else ((iget 20 s 1093 x1).bind fun v2 => if v2 = 64 then (fb_X12_atOf_28 x1 s) else (K2 (x1 + 1) s))
set_option maxRecDepth 100000 in
set_option maxHeartbeats 4000000 in
theorem xb_X12_atOf_2 {l : Launch} {D : va_G} {A : Nat → ClassId} {B : Nat} {Z : State → Heap → Prop} {vF : Value} (uk : uK B Z vF) {K2 : Int32 → uS → Option Int32} (hK2 : ∀ (x1 : Int32)  (s : uS) (r : Int32), K2 x1 s = some r → GU l D A B Z mX12_atOf 3 (s, some (.int r)) s 2 [(0, .ref (B + 1079)), (1, .int x1)] []) {x1 : Int32} {s : uS} {r : Int32}  (h : fb_X12_atOf_2 K2 x1 s = some r) : GU l D A B Z mX12_atOf 3 (s, some (.int r)) s 2 [(0, .ref (B + 1079)), (1, .int x1)] [] := by
  unfold fb_X12_atOf_2 at h
  refine uu_iload_n dX12_atOf_2 rfl (List.mem_of_getElem? (i := 1) rfl) ?_
  refine uu_aload_n dX12_atOf_3 rfl (List.mem_of_getElem? (i := 0) rfl) ?_
  refine uu_geti (ci := 12) (N := 153) fX12_110 (by decide) so_1079.is (by decide) (by decide) dX12_atOf_4 ?_
  refine uu_icmp_ge (tgt := 28) dX12_atOf_7 (by decide) (fun c1 => ?_) (fun c1 => ?_)
  · replace h := uu_pos c1 h
    exact xb_X12_atOf_28 uk  h
  · replace h := uu_neg c1 h
    refine uu_aload_n dX12_atOf_10 rfl (List.mem_of_getElem? (i := 0) rfl) ?_
    refine uu_geta (ci := 12) (N := 153) fX12_116 (by decide) so_1079.is (by decide) (c := 1093) (by decide) dX12_atOf_11 ?_
    refine uu_iload_n dX12_atOf_14 rfl (List.mem_of_getElem? (i := 1) rfl) ?_
    obtain ⟨v2, e3, h⟩ := uu_ob h
    refine uu_iald e3 dX12_atOf_15 ?_
    refine uu_bipush (v := 64) dX12_atOf_16 (by decide) ?_
    refine uu_icmp_eq (tgt := 28) dX12_atOf_18 (by decide) (fun c4 => ?_) (fun c4 => ?_)
    · replace h := uu_pos c4 h
      exact xb_X12_atOf_28 uk  h
    · replace h := uu_neg c4 h
      refine uu_iload_n dX12_atOf_21 rfl (List.mem_of_getElem? (i := 1) rfl) ?_
      refine uu_iconst (v := 1) dX12_atOf_22 (by decide) ?_
      refine uu_iadd dX12_atOf_23 ?_
      refine uu_istore_n dX12_atOf_24 rfl (by decide) rfl ?_
      refine uu_goto (tgt := 2) dX12_atOf_25 (by decide) ?_
      refine uu_lv [1, 0] (lv' := [(0, .ref (B + 1079)), (1, .int (x1 + 1))]) rfl ?_
      exact hK2 (x1 + 1) _ _ h
def fn_X12_atOf_2  : Nat → Int32 → uS → Option Int32
  | 0 => fun _ _ => none
  | n + 1 => fb_X12_atOf_2 (fn_X12_atOf_2  n)
set_option maxRecDepth 100000 in
set_option maxHeartbeats 4000000 in
theorem xn_X12_atOf_2 {l : Launch} {D : va_G} {A : Nat → ClassId} {B : Nat} {Z : State → Heap → Prop} {vF : Value} (uk : uK B Z vF)   : ∀ (n : Nat) (x1 : Int32)  (s : uS) (r : Int32), fn_X12_atOf_2  n x1 s = some r → GU l D A B Z mX12_atOf 3 (s, some (.int r)) s 2 [(0, .ref (B + 1079)), (1, .int x1)] [] := by
  intro n
  induction n with
  | zero => intro x1 s r h
            cases h
  | succ n ih => intro x1 s r h
                 exact xb_X12_atOf_2 uk ih  h
def fn_X12_atOf  (s : uS) : Option Int32 := fn_X12_atOf_2 uFu 0 s
set_option maxRecDepth 100000 in
set_option maxHeartbeats 4000000 in
theorem xc_X12_atOf {l : Launch} {D : va_G} {A : Nat → ClassId} {B : Nat} {Z : State → Heap → Prop} {vF : Value} (uk : uK B Z vF)  {s : uS} {r : Int32}  (h : fn_X12_atOf  s = some r) : CU l D A B Z 3 mX12_atOf s [.ref (B + 1079)] (s, some (.int r)) := by
  unfold fn_X12_atOf at h
  refine cu_of rfl uk.1.1 (Nat.le_of_ble_eq_true rfl) ?_
  show GU _ _ _ _ _ _ _ _ _ 0 [(0, .ref (B + 1079))] []
  refine uu_iconst (v := 0) dX12_atOf_0 (by decide) ?_
  refine uu_istore_n dX12_atOf_1 rfl (by decide) rfl ?_
  refine uu_lv [1, 0] (lv' := [(0, .ref (B + 1079)), (1, .int 0)]) rfl ?_
  exact xn_X12_atOf_2 uk  _ _ _ _ h
abbrev mX12_userOf : hM := (yX12_userOf, cX12_userOf, 2, (some (.int)))
theorem kX12_oneIs : h_ml mX12_oneIs 1 := ⟨h_t9 191 rfl rfl, h_t1 16 rfl rfl, ⟨by decide, by decide, by decide +kernel⟩, by decide⟩
theorem lX12_158 : Cond.methodLink RX12 158 mX12_oneIs.1 ∈ lw_g := h_t9 188 rfl rfl
theorem sX12_oneIs : Cond.instanceMethod mX12_oneIs.1 ∈ lw_g ∧ Cond.selects mX12_oneIs.1.cls mX12_oneIs.1 mX12_oneIs.1 ∈ lw_g := ⟨h_t9 190 rfl rfl, h_ins 188 rfl⟩
theorem dX12_userOf_39 : decode cX12_userOf 39 = .ok (.invokevirtual 158, 3) := by decide +kernel
theorem dX12_userOf_42 : decode cX12_userOf 42 = .ok (.ifCond .eq 5, 3) := by decide +kernel
theorem dX12_userOf_47 : decode cX12_userOf 47 = .ok (.iinc 1 1, 3) := by decide +kernel
theorem dX12_userOf_50 : decode cX12_userOf 50 = .ok (.goto (-48), 3) := by decide +kernel
theorem dX12_userOf_45 : decode cX12_userOf 45 = .ok (.iload_n 1, 1) := by decide +kernel
theorem dX12_userOf_46 : decode cX12_userOf 46 = .ok (.ireturn, 1) := by decide +kernel
theorem dX12_userOf_2 : decode cX12_userOf 2 = .ok (.iload_n 1, 1) := by decide +kernel
theorem dX12_userOf_3 : decode cX12_userOf 3 = .ok (.iconst 4, 1) := by decide +kernel
theorem dX12_userOf_4 : decode cX12_userOf 4 = .ok (.if_icmp .ge 49, 3) := by decide +kernel
theorem dX12_userOf_53 : decode cX12_userOf 53 = .ok (.iconst (-1), 1) := by decide +kernel
theorem dX12_userOf_54 : decode cX12_userOf 54 = .ok (.ireturn, 1) := by decide +kernel
theorem dX12_userOf_7 : decode cX12_userOf 7 = .ok (.aload_n 0, 1) := by decide +kernel
theorem dX12_userOf_8 : decode cX12_userOf 8 = .ok (.iload_n 1, 1) := by decide +kernel
theorem dX12_userOf_9 : decode cX12_userOf 9 = .ok (.ifCond .ne 8, 3) := by decide +kernel
theorem dX12_userOf_17 : decode cX12_userOf 17 = .ok (.iload_n 1, 1) := by decide +kernel
theorem dX12_userOf_18 : decode cX12_userOf 18 = .ok (.iconst 1, 1) := by decide +kernel
theorem dX12_userOf_19 : decode cX12_userOf 19 = .ok (.if_icmp .ne 8, 3) := by decide +kernel
theorem dX12_userOf_27 : decode cX12_userOf 27 = .ok (.iload_n 1, 1) := by decide +kernel
theorem dX12_userOf_28 : decode cX12_userOf 28 = .ok (.iconst 2, 1) := by decide +kernel
theorem dX12_userOf_29 : decode cX12_userOf 29 = .ok (.if_icmp .ne 8, 3) := by decide +kernel
theorem dX12_userOf_37 : decode cX12_userOf 37 = .ok (.ldc 156, 2) := by decide +kernel
theorem dX12_userOf_32 : decode cX12_userOf 32 = .ok (.ldc 154, 2) := by decide +kernel
theorem dX12_userOf_34 : decode cX12_userOf 34 = .ok (.goto 5, 3) := by decide +kernel
theorem dX12_userOf_22 : decode cX12_userOf 22 = .ok (.ldc 152, 2) := by decide +kernel
theorem dX12_userOf_24 : decode cX12_userOf 24 = .ok (.goto 15, 3) := by decide +kernel
theorem dX12_userOf_12 : decode cX12_userOf 12 = .ok (.ldc 150, 2) := by decide +kernel
theorem dX12_userOf_14 : decode cX12_userOf 14 = .ok (.goto 25, 3) := by decide +kernel
theorem dX12_userOf_0 : decode cX12_userOf 0 = .ok (.iconst 0, 1) := by decide +kernel
theorem dX12_userOf_1 : decode cX12_userOf 1 = .ok (.istore_n 1, 1) := by decide +kernel
def fb_X12_userOf_39 (K2 : Int32 → uS → Option (uS × Int32)) (x1 : Int32) (ws0 : List Nat) (s : uS) : Option (uS × Int32) := (fn_X12_oneIs ws0 s).bind fun r1 => if r1.2 = true then (some (r1.1, x1)) else (K2 (x1 + 1) r1.1)
set_option maxRecDepth 100000 in
set_option maxHeartbeats 4000000 in
theorem xb_X12_userOf_39 {l : Launch} {D : va_G} {A : Nat → ClassId} {B : Nat} {Z : State → Heap → Prop} {vF : Value} (uk : uK B Z vF) {K2 : Int32 → uS → Option (uS × Int32)} (hK2 : ∀ (x1 : Int32)  (s : uS) (r : (uS × Int32)), K2 x1 s = some r → GU l D A B Z mX12_userOf 6 (r.1, some (.int r.2)) s 2 [(0, .ref (B + 1079)), (1, .int x1)] []) {x1 : Int32} {ws0 : List Nat} {s : uS} {r : (uS × Int32)} {qws0 pws0 : Nat} (hws0 : uStr B Z qws0 pws0 ws0) (h : fb_X12_userOf_39 K2 x1 ws0 s = some r) : GU l D A B Z mX12_userOf 6 (r.1, some (.int r.2)) s 39 [(0, .ref (B + 1079)), (1, .int x1)] [.ref qws0, .ref (B + 1079)] := by
  unfold fb_X12_userOf_39 at h
  obtain ⟨r1, e2, h⟩ := uu_ob h
  refine uu_cv (d1 := 5) (k := 1079) (ci := 12) (T := TX12) (N := 153) (As := [.ref qws0]) (st := []) (st' := [.int (bI r1.2)]) (xc_X12_oneIs uk hws0 e2) so_1079.is (by decide) rfl kX12_oneIs lX12_158 sX12_oneIs (by decide) (Nat.le_of_ble_eq_true rfl) dX12_userOf_39 rfl ?_
  refine uu_ifb_eq (tgt := 47) dX12_userOf_42 (by decide) (fun c3 => ?_) (fun c3 => ?_)
  · replace h := uu_neg c3 h
    refine uu_iinc (v := x1 + 1) dX12_userOf_47 (k := 1) rfl rfl (by decide) rfl ?_
    refine uu_goto (tgt := 2) dX12_userOf_50 (by decide) ?_
    refine uu_lv [1, 0] (lv' := [(0, .ref (B + 1079)), (1, .int (x1 + 1))]) rfl ?_
    exact hK2 (x1 + 1) _ _ h
  · replace h := uu_pos c3 h
    refine uu_iload_n dX12_userOf_45 rfl (List.mem_of_getElem? (i := 1) rfl) ?_
    have hr := Option.some.inj h
    subst hr
    exact uu_iret rfl dX12_userOf_46
def fb_X12_userOf_2 (K2 : Int32 → uS → Option (uS × Int32)) (x1 : Int32) (s : uS) : Option (uS × Int32) := if (4 : Int32) ≤ x1 then (some (s, (-1 : Int32))) else (if x1 = 0 then (fb_X12_userOf_39 K2 x1 kW_71 s) else (if x1 = 1 then (fb_X12_userOf_39 K2 x1 kW_72 s) else (if x1 = 2 then (fb_X12_userOf_39 K2 x1 kW_73 s) else (fb_X12_userOf_39 K2 x1 kW_74 s))))
set_option maxRecDepth 100000 in
set_option maxHeartbeats 4000000 in
theorem xb_X12_userOf_2 {l : Launch} {D : va_G} {A : Nat → ClassId} {B : Nat} {Z : State → Heap → Prop} {vF : Value} (uk : uK B Z vF) {K2 : Int32 → uS → Option (uS × Int32)} (hK2 : ∀ (x1 : Int32)  (s : uS) (r : (uS × Int32)), K2 x1 s = some r → GU l D A B Z mX12_userOf 6 (r.1, some (.int r.2)) s 2 [(0, .ref (B + 1079)), (1, .int x1)] []) {x1 : Int32} {s : uS} {r : (uS × Int32)}  (h : fb_X12_userOf_2 K2 x1 s = some r) : GU l D A B Z mX12_userOf 6 (r.1, some (.int r.2)) s 2 [(0, .ref (B + 1079)), (1, .int x1)] [] := by
  unfold fb_X12_userOf_2 at h
  refine uu_iload_n dX12_userOf_2 rfl (List.mem_of_getElem? (i := 1) rfl) ?_
  refine uu_iconst (v := 4) dX12_userOf_3 (by decide) ?_
  refine uu_icmp_ge (tgt := 53) dX12_userOf_4 (by decide) (fun c1 => ?_) (fun c1 => ?_)
  · replace h := uu_pos c1 h
    refine uu_iconst (v := -1) dX12_userOf_53 (by decide) ?_
    have hr := Option.some.inj h
    subst hr
    exact uu_iret rfl dX12_userOf_54
  · replace h := uu_neg c1 h
    refine uu_aload_n dX12_userOf_7 rfl (List.mem_of_getElem? (i := 0) rfl) ?_
    refine uu_iload_n dX12_userOf_8 rfl (List.mem_of_getElem? (i := 1) rfl) ?_
    refine uu_if_ne (tgt := 17) dX12_userOf_9 (by decide) (fun c2 => ?_) (fun c2 => ?_)
    · replace h := uu_neg c2 h
      refine uu_iload_n dX12_userOf_17 rfl (List.mem_of_getElem? (i := 1) rfl) ?_
      refine uu_iconst (v := 1) dX12_userOf_18 (by decide) ?_
      refine uu_icmp_ne (tgt := 27) dX12_userOf_19 (by decide) (fun c3 => ?_) (fun c3 => ?_)
      · replace h := uu_neg c3 h
        refine uu_iload_n dX12_userOf_27 rfl (List.mem_of_getElem? (i := 1) rfl) ?_
        refine uu_iconst (v := 2) dX12_userOf_28 (by decide) ?_
        refine uu_icmp_ne (tgt := 37) dX12_userOf_29 (by decide) (fun c4 => ?_) (fun c4 => ?_)
        · replace h := uu_neg c4 h
          obtain ⟨cq5, cp5, cv5, cw5⟩ := uk.2.1 74 _ rfl
          refine uu_ldcS cv5 dX12_userOf_37 ?_
          exact xb_X12_userOf_39 uk hK2 cw5 h
        · replace h := uu_pos c4 h
          obtain ⟨cq6, cp6, cv6, cw6⟩ := uk.2.1 73 _ rfl
          refine uu_ldcS cv6 dX12_userOf_32 ?_
          refine uu_goto (tgt := 39) dX12_userOf_34 (by decide) ?_
          exact xb_X12_userOf_39 uk hK2 cw6 h
      · replace h := uu_pos c3 h
        obtain ⟨cq7, cp7, cv7, cw7⟩ := uk.2.1 72 _ rfl
        refine uu_ldcS cv7 dX12_userOf_22 ?_
        refine uu_goto (tgt := 39) dX12_userOf_24 (by decide) ?_
        exact xb_X12_userOf_39 uk hK2 cw7 h
    · replace h := uu_pos c2 h
      obtain ⟨cq8, cp8, cv8, cw8⟩ := uk.2.1 71 _ rfl
      refine uu_ldcS cv8 dX12_userOf_12 ?_
      refine uu_goto (tgt := 39) dX12_userOf_14 (by decide) ?_
      exact xb_X12_userOf_39 uk hK2 cw8 h
def fn_X12_userOf_2  : Nat → Int32 → uS → Option (uS × Int32)
  | 0 => fun _ _ => none
  | n + 1 => fb_X12_userOf_2 (fn_X12_userOf_2  n)
set_option maxRecDepth 100000 in
set_option maxHeartbeats 4000000 in
theorem xn_X12_userOf_2 {l : Launch} {D : va_G} {A : Nat → ClassId} {B : Nat} {Z : State → Heap → Prop} {vF : Value} (uk : uK B Z vF)   : ∀ (n : Nat) (x1 : Int32)  (s : uS) (r : (uS × Int32)), fn_X12_userOf_2  n x1 s = some r → GU l D A B Z mX12_userOf 6 (r.1, some (.int r.2)) s 2 [(0, .ref (B + 1079)), (1, .int x1)] [] := by
  intro n
  induction n with
  | zero => intro x1 s r h
            cases h
  | succ n ih => intro x1 s r h
                 exact xb_X12_userOf_2 uk ih  h
def fn_X12_userOf  (s : uS) : Option (uS × Int32) := fn_X12_userOf_2 uFu 0 s
set_option maxRecDepth 100000 in
set_option maxHeartbeats 4000000 in
theorem xc_X12_userOf {l : Launch} {D : va_G} {A : Nat → ClassId} {B : Nat} {Z : State → Heap → Prop} {vF : Value} (uk : uK B Z vF)  {s : uS} {r : (uS × Int32)}  (h : fn_X12_userOf  s = some r) : CU l D A B Z 6 mX12_userOf s [.ref (B + 1079)] (r.1, some (.int r.2)) := by
  unfold fn_X12_userOf at h
  refine cu_of rfl uk.1.1 (Nat.le_of_ble_eq_true rfl) ?_
  show GU _ _ _ _ _ _ _ _ _ 0 [(0, .ref (B + 1079))] []
  refine uu_iconst (v := 0) dX12_userOf_0 (by decide) ?_
  refine uu_istore_n dX12_userOf_1 rfl (by decide) rfl ?_
  refine uu_lv [1, 0] (lv' := [(0, .ref (B + 1079)), (1, .int 0)]) rfl ?_
  exact xn_X12_userOf_2 uk  _ _ _ _ h
