abbrev mX12_boxMade : hM := (yX12_boxMade, cX12_boxMade, 4, (some (.int)))
theorem dX12_boxMade_56 : decode cX12_boxMade 56 = .ok (.iload_n 3, 1) := by decide +kernel
theorem dX12_boxMade_57 : decode cX12_boxMade 57 = .ok (.aload_n 0, 1) := by decide +kernel
theorem dX12_boxMade_58 : decode cX12_boxMade 58 = .ok (.getfield 346, 3) := by decide +kernel
theorem dX12_boxMade_61 : decode cX12_boxMade 61 = .ok (.iload_n 1, 1) := by decide +kernel
theorem dX12_boxMade_62 : decode cX12_boxMade 62 = .ok (.iaload, 1) := by decide +kernel
theorem dX12_boxMade_63 : decode cX12_boxMade 63 = .ok (.if_icmp .ge 41, 3) := by decide +kernel
theorem dX12_boxMade_104 : decode cX12_boxMade 104 = .ok (.iload_n 2, 1) := by decide +kernel
theorem dX12_boxMade_105 : decode cX12_boxMade 105 = .ok (.ireturn, 1) := by decide +kernel
theorem dX12_boxMade_66 : decode cX12_boxMade 66 = .ok (.aload_n 0, 1) := by decide +kernel
theorem dX12_boxMade_67 : decode cX12_boxMade 67 = .ok (.getfield 805, 3) := by decide +kernel
theorem dX12_boxMade_70 : decode cX12_boxMade 70 = .ok (.bipush 20, 2) := by decide +kernel
theorem dX12_boxMade_72 : decode cX12_boxMade 72 = .ok (.bipush 6, 2) := by decide +kernel
theorem dX12_boxMade_74 : decode cX12_boxMade 74 = .ok (.aload_n 0, 1) := by decide +kernel
theorem dX12_boxMade_75 : decode cX12_boxMade 75 = .ok (.getfield 799, 3) := by decide +kernel
theorem dX12_boxMade_78 : decode cX12_boxMade 78 = .ok (.imul, 1) := by decide +kernel
theorem dX12_boxMade_79 : decode cX12_boxMade 79 = .ok (.iload_n 2, 1) := by decide +kernel
theorem dX12_boxMade_80 : decode cX12_boxMade 80 = .ok (.iadd, 1) := by decide +kernel
theorem dX12_boxMade_81 : decode cX12_boxMade 81 = .ok (.imul, 1) := by decide +kernel
theorem dX12_boxMade_82 : decode cX12_boxMade 82 = .ok (.iload_n 3, 1) := by decide +kernel
theorem dX12_boxMade_83 : decode cX12_boxMade 83 = .ok (.iadd, 1) := by decide +kernel
theorem dX12_boxMade_84 : decode cX12_boxMade 84 = .ok (.aload_n 0, 1) := by decide +kernel
theorem dX12_boxMade_85 : decode cX12_boxMade 85 = .ok (.getfield 260, 3) := by decide +kernel
theorem dX12_boxMade_88 : decode cX12_boxMade 88 = .ok (.aload_n 0, 1) := by decide +kernel
theorem dX12_boxMade_89 : decode cX12_boxMade 89 = .ok (.getfield 343, 3) := by decide +kernel
theorem dX12_boxMade_92 : decode cX12_boxMade 92 = .ok (.iload_n 1, 1) := by decide +kernel
theorem dX12_boxMade_93 : decode cX12_boxMade 93 = .ok (.iaload, 1) := by decide +kernel
theorem dX12_boxMade_94 : decode cX12_boxMade 94 = .ok (.iload_n 3, 1) := by decide +kernel
theorem dX12_boxMade_95 : decode cX12_boxMade 95 = .ok (.iadd, 1) := by decide +kernel
theorem dX12_boxMade_96 : decode cX12_boxMade 96 = .ok (.iaload, 1) := by decide +kernel
theorem dX12_boxMade_97 : decode cX12_boxMade 97 = .ok (.iastore, 1) := by decide +kernel
theorem dX12_boxMade_98 : decode cX12_boxMade 98 = .ok (.iinc 3 1, 3) := by decide +kernel
theorem dX12_boxMade_101 : decode cX12_boxMade 101 = .ok (.goto (-45), 3) := by decide +kernel
theorem dX12_boxMade_0 : decode cX12_boxMade 0 = .ok (.aload_n 0, 1) := by decide +kernel
theorem dX12_boxMade_1 : decode cX12_boxMade 1 = .ok (.iload_n 1, 1) := by decide +kernel
theorem dX12_boxMade_2 : decode cX12_boxMade 2 = .ok (.invokevirtual 808, 3) := by decide +kernel
theorem dX12_boxMade_5 : decode cX12_boxMade 5 = .ok (.istore_n 2, 1) := by decide +kernel
theorem dX12_boxMade_6 : decode cX12_boxMade 6 = .ok (.iload_n 2, 1) := by decide +kernel
theorem dX12_boxMade_7 : decode cX12_boxMade 7 = .ok (.ifCond .lt 5, 3) := by decide +kernel
theorem dX12_boxMade_12 : decode cX12_boxMade 12 = .ok (.aload_n 0, 1) := by decide +kernel
theorem dX12_boxMade_13 : decode cX12_boxMade 13 = .ok (.getfield 796, 3) := by decide +kernel
theorem dX12_boxMade_16 : decode cX12_boxMade 16 = .ok (.aload_n 0, 1) := by decide +kernel
theorem dX12_boxMade_17 : decode cX12_boxMade 17 = .ok (.getfield 799, 3) := by decide +kernel
theorem dX12_boxMade_20 : decode cX12_boxMade 20 = .ok (.iaload, 1) := by decide +kernel
theorem dX12_boxMade_21 : decode cX12_boxMade 21 = .ok (.istore_n 2, 1) := by decide +kernel
theorem dX12_boxMade_22 : decode cX12_boxMade 22 = .ok (.aload_n 0, 1) := by decide +kernel
theorem dX12_boxMade_23 : decode cX12_boxMade 23 = .ok (.getfield 796, 3) := by decide +kernel
theorem dX12_boxMade_26 : decode cX12_boxMade 26 = .ok (.aload_n 0, 1) := by decide +kernel
theorem dX12_boxMade_27 : decode cX12_boxMade 27 = .ok (.getfield 799, 3) := by decide +kernel
theorem dX12_boxMade_30 : decode cX12_boxMade 30 = .ok (.iload_n 2, 1) := by decide +kernel
theorem dX12_boxMade_31 : decode cX12_boxMade 31 = .ok (.iconst 1, 1) := by decide +kernel
theorem dX12_boxMade_32 : decode cX12_boxMade 32 = .ok (.iadd, 1) := by decide +kernel
theorem dX12_boxMade_33 : decode cX12_boxMade 33 = .ok (.iastore, 1) := by decide +kernel
theorem dX12_boxMade_34 : decode cX12_boxMade 34 = .ok (.aload_n 0, 1) := by decide +kernel
theorem dX12_boxMade_35 : decode cX12_boxMade 35 = .ok (.getfield 802, 3) := by decide +kernel
theorem dX12_boxMade_38 : decode cX12_boxMade 38 = .ok (.bipush 6, 2) := by decide +kernel
theorem dX12_boxMade_40 : decode cX12_boxMade 40 = .ok (.aload_n 0, 1) := by decide +kernel
theorem dX12_boxMade_41 : decode cX12_boxMade 41 = .ok (.getfield 799, 3) := by decide +kernel
theorem dX12_boxMade_44 : decode cX12_boxMade 44 = .ok (.imul, 1) := by decide +kernel
theorem dX12_boxMade_45 : decode cX12_boxMade 45 = .ok (.iload_n 2, 1) := by decide +kernel
theorem dX12_boxMade_46 : decode cX12_boxMade 46 = .ok (.iadd, 1) := by decide +kernel
theorem dX12_boxMade_47 : decode cX12_boxMade 47 = .ok (.aload_n 0, 1) := by decide +kernel
theorem dX12_boxMade_48 : decode cX12_boxMade 48 = .ok (.getfield 346, 3) := by decide +kernel
theorem dX12_boxMade_51 : decode cX12_boxMade 51 = .ok (.iload_n 1, 1) := by decide +kernel
theorem dX12_boxMade_52 : decode cX12_boxMade 52 = .ok (.iaload, 1) := by decide +kernel
theorem dX12_boxMade_53 : decode cX12_boxMade 53 = .ok (.iastore, 1) := by decide +kernel
theorem dX12_boxMade_54 : decode cX12_boxMade 54 = .ok (.iconst 0, 1) := by decide +kernel
theorem dX12_boxMade_55 : decode cX12_boxMade 55 = .ok (.istore_n 3, 1) := by decide +kernel
theorem dX12_boxMade_10 : decode cX12_boxMade 10 = .ok (.iload_n 2, 1) := by decide +kernel
theorem dX12_boxMade_11 : decode cX12_boxMade 11 = .ok (.ireturn, 1) := by decide +kernel
def fb_X12_boxMade_56 (K56 : Int32 → Int32 → Int32 → uS → Option (uS × Int32)) (x1 : Int32) (x2 : Int32) (x3 : Int32) (s : uS) : Option (uS × Int32) := (iget 20 s 1117 x1).bind fun v1 => if v1 ≤ x3 then (some (s, x2)) else ((iget 20 s 1116 x1).bind fun v4 => (iget 20 s 1097 (v4 + x3)).bind fun v6 => (iput 20 s 1127 (((20 : Int32) * (((6 : Int32) * (s.I 1079 89)) + x2)) + x3) v6).bind fun s8 => K56 x1 x2 (x3 + 1) s8)
set_option maxRecDepth 100000 in
set_option maxHeartbeats 4000000 in
theorem xb_X12_boxMade_56 {l : Launch} {D : va_G} {A : Nat → ClassId} {B : Nat} {Z : State → Heap → Prop} {vF : Value} (uk : uK B Z vF) {K56 : Int32 → Int32 → Int32 → uS → Option (uS × Int32)} (hK56 : ∀ (x1 : Int32) (x2 : Int32) (x3 : Int32)  (s : uS) (r : (uS × Int32)), K56 x1 x2 x3 s = some r → GU l D A B Z mX12_boxMade 8 (r.1, some (.int r.2)) s 56 [(0, .ref (B + 1079)), (1, .int x1), (2, .int x2), (3, .int x3)] []) {x1 : Int32} {x2 : Int32} {x3 : Int32} {s : uS} {r : (uS × Int32)}  (h : fb_X12_boxMade_56 K56 x1 x2 x3 s = some r) : GU l D A B Z mX12_boxMade 8 (r.1, some (.int r.2)) s 56 [(0, .ref (B + 1079)), (1, .int x1), (2, .int x2), (3, .int x3)] [] := by
  unfold fb_X12_boxMade_56 at h
  refine uu_iload_n dX12_boxMade_56 rfl (List.mem_of_getElem? (i := 3) rfl) ?_
  refine uu_aload_n dX12_boxMade_57 rfl (List.mem_of_getElem? (i := 0) rfl) ?_
  refine uu_geta (ci := 12) (N := 153) fX12_346 (by decide) so_1079.is (by decide) (c := 1117) (by decide) dX12_boxMade_58 ?_
  refine uu_iload_n dX12_boxMade_61 rfl (List.mem_of_getElem? (i := 1) rfl) ?_
  obtain ⟨v1, e2, h⟩ := uu_ob h
  refine uu_iald e2 dX12_boxMade_62 ?_
  refine uu_icmp_ge (tgt := 104) dX12_boxMade_63 (by decide) (fun c3 => ?_) (fun c3 => ?_)
  · replace h := uu_pos c3 h
    refine uu_iload_n dX12_boxMade_104 rfl (List.mem_of_getElem? (i := 2) rfl) ?_
    have hr := Option.some.inj h
    subst hr
    exact uu_iret rfl dX12_boxMade_105
  · replace h := uu_neg c3 h
    refine uu_aload_n dX12_boxMade_66 rfl (List.mem_of_getElem? (i := 0) rfl) ?_
    refine uu_geta (ci := 12) (N := 153) fX12_805 (by decide) so_1079.is (by decide) (c := 1127) (by decide) dX12_boxMade_67 ?_
    refine uu_bipush (v := 20) dX12_boxMade_70 (by decide) ?_
    refine uu_bipush (v := 6) dX12_boxMade_72 (by decide) ?_
    refine uu_aload_n dX12_boxMade_74 rfl (List.mem_of_getElem? (i := 0) rfl) ?_
    refine uu_geti (ci := 12) (N := 153) fX12_799 (by decide) so_1079.is (by decide) (by decide) dX12_boxMade_75 ?_
    refine uu_imul dX12_boxMade_78 ?_
    refine uu_iload_n dX12_boxMade_79 rfl (List.mem_of_getElem? (i := 2) rfl) ?_
    refine uu_iadd dX12_boxMade_80 ?_
    refine uu_imul dX12_boxMade_81 ?_
    refine uu_iload_n dX12_boxMade_82 rfl (List.mem_of_getElem? (i := 3) rfl) ?_
    refine uu_iadd dX12_boxMade_83 ?_
    refine uu_aload_n dX12_boxMade_84 rfl (List.mem_of_getElem? (i := 0) rfl) ?_
    refine uu_geta (ci := 12) (N := 153) fX12_260 (by decide) so_1079.is (by decide) (c := 1097) (by decide) dX12_boxMade_85 ?_
    refine uu_aload_n dX12_boxMade_88 rfl (List.mem_of_getElem? (i := 0) rfl) ?_
    refine uu_geta (ci := 12) (N := 153) fX12_343 (by decide) so_1079.is (by decide) (c := 1116) (by decide) dX12_boxMade_89 ?_
    refine uu_iload_n dX12_boxMade_92 rfl (List.mem_of_getElem? (i := 1) rfl) ?_
    obtain ⟨v4, e5, h⟩ := uu_ob h
    refine uu_iald e5 dX12_boxMade_93 ?_
    refine uu_iload_n dX12_boxMade_94 rfl (List.mem_of_getElem? (i := 3) rfl) ?_
    refine uu_iadd dX12_boxMade_95 ?_
    obtain ⟨v6, e7, h⟩ := uu_ob h
    refine uu_iald e7 dX12_boxMade_96 ?_
    obtain ⟨s8, e9, h⟩ := uu_ob h
    refine uu_iast e9 dX12_boxMade_97 ?_
    refine uu_iinc (v := x3 + 1) dX12_boxMade_98 (k := 3) rfl rfl (by decide) rfl ?_
    refine uu_goto (tgt := 56) dX12_boxMade_101 (by decide) ?_
    refine uu_lv [1, 2, 3, 0] (lv' := [(0, .ref (B + 1079)), (1, .int x1), (2, .int x2), (3, .int (x3 + 1))]) rfl ?_
    exact hK56 x1 x2 (x3 + 1) _ _ h
def fn_X12_boxMade_56  : Nat → Int32 → Int32 → Int32 → uS → Option (uS × Int32)
  | 0 => fun _ _ _ _ => none
  | n + 1 => fb_X12_boxMade_56 (fn_X12_boxMade_56  n)
set_option maxRecDepth 100000 in
set_option maxHeartbeats 4000000 in
theorem xn_X12_boxMade_56 {l : Launch} {D : va_G} {A : Nat → ClassId} {B : Nat} {Z : State → Heap → Prop} {vF : Value} (uk : uK B Z vF)   : ∀ (n : Nat) (x1 : Int32) (x2 : Int32) (x3 : Int32)  (s : uS) (r : (uS × Int32)), fn_X12_boxMade_56  n x1 x2 x3 s = some r → GU l D A B Z mX12_boxMade 8 (r.1, some (.int r.2)) s 56 [(0, .ref (B + 1079)), (1, .int x1), (2, .int x2), (3, .int x3)] [] := by
  intro n
  induction n with
  | zero => intro x1 x2 x3 s r h
            cases h
  | succ n ih => intro x1 x2 x3 s r h
                 exact xb_X12_boxMade_56 uk ih  h
def fn_X12_boxMade (x1 : Int32) (s : uS) : Option (uS × Int32) := (fn_X12_boxOf x1 s).bind fun r1 => if r1.2 < 0 then ((iget 20 r1.1 1126 (r1.1.I 1079 89)).bind fun v4 => (iput 20 r1.1 1126 (r1.1.I 1079 89) (v4 + 1)).bind fun s6 => (iget 20 s6 1117 x1).bind fun v8 => (iput 20 s6 1128 (((6 : Int32) * (s6.I 1079 89)) + v4) v8).bind fun s10 => fn_X12_boxMade_56 uFu x1 v4 0 s10) else (some (r1.1, r1.2))
set_option maxRecDepth 100000 in
set_option maxHeartbeats 4000000 in
theorem xc_X12_boxMade {l : Launch} {D : va_G} {A : Nat → ClassId} {B : Nat} {Z : State → Heap → Prop} {vF : Value} (uk : uK B Z vF) {x1 : Int32} {s : uS} {r : (uS × Int32)}  (h : fn_X12_boxMade x1 s = some r) : CU l D A B Z 8 mX12_boxMade s [.ref (B + 1079), .int x1] (r.1, some (.int r.2)) := by
  unfold fn_X12_boxMade at h
  refine cu_of rfl uk.1.1 (Nat.le_of_ble_eq_true rfl) ?_
  show GU _ _ _ _ _ _ _ _ _ 0 [(0, .ref (B + 1079)), (1, .int x1)] []
  refine uu_aload_n dX12_boxMade_0 rfl (List.mem_of_getElem? (i := 0) rfl) ?_
  refine uu_iload_n dX12_boxMade_1 rfl (List.mem_of_getElem? (i := 1) rfl) ?_
  obtain ⟨r1, e2, h⟩ := uu_ob h
  refine uu_cv (d1 := 7) (k := 1079) (ci := 12) (T := TX12) (N := 153) (As := [.int x1]) (st := []) (st' := [.int r1.2]) (xc_X12_boxOf uk  e2) so_1079.is (by decide) rfl kX12_boxOf lX12_808 sX12_boxOf (by decide) (Nat.le_of_ble_eq_true rfl) dX12_boxMade_2 rfl ?_
  refine uu_istore_n dX12_boxMade_5 rfl (by decide) rfl ?_
  refine uu_iload_n dX12_boxMade_6 rfl (List.mem_of_getElem? (i := 0) rfl) ?_
  refine uu_if_lt (tgt := 12) dX12_boxMade_7 (by decide) (fun c3 => ?_) (fun c3 => ?_)
  · replace h := uu_pos c3 h
    refine uu_aload_n dX12_boxMade_12 rfl (List.mem_of_getElem? (i := 1) rfl) ?_
    refine uu_geta (ci := 12) (N := 153) fX12_796 (by decide) so_1079.is (by decide) (c := 1126) (by decide) dX12_boxMade_13 ?_
    refine uu_aload_n dX12_boxMade_16 rfl (List.mem_of_getElem? (i := 1) rfl) ?_
    refine uu_geti (ci := 12) (N := 153) fX12_799 (by decide) so_1079.is (by decide) (by decide) dX12_boxMade_17 ?_
    obtain ⟨v4, e5, h⟩ := uu_ob h
    refine uu_iald e5 dX12_boxMade_20 ?_
    refine uu_istore_n dX12_boxMade_21 rfl (by decide) rfl ?_
    refine uu_aload_n dX12_boxMade_22 rfl (List.mem_of_getElem? (i := 1) rfl) ?_
    refine uu_geta (ci := 12) (N := 153) fX12_796 (by decide) so_1079.is (by decide) (c := 1126) (by decide) dX12_boxMade_23 ?_
    refine uu_aload_n dX12_boxMade_26 rfl (List.mem_of_getElem? (i := 1) rfl) ?_
    refine uu_geti (ci := 12) (N := 153) fX12_799 (by decide) so_1079.is (by decide) (by decide) dX12_boxMade_27 ?_
    refine uu_iload_n dX12_boxMade_30 rfl (List.mem_of_getElem? (i := 0) rfl) ?_
    refine uu_iconst (v := 1) dX12_boxMade_31 (by decide) ?_
    refine uu_iadd dX12_boxMade_32 ?_
    obtain ⟨s6, e7, h⟩ := uu_ob h
    refine uu_iast e7 dX12_boxMade_33 ?_
    refine uu_aload_n dX12_boxMade_34 rfl (List.mem_of_getElem? (i := 1) rfl) ?_
    refine uu_geta (ci := 12) (N := 153) fX12_802 (by decide) so_1079.is (by decide) (c := 1128) (by decide) dX12_boxMade_35 ?_
    refine uu_bipush (v := 6) dX12_boxMade_38 (by decide) ?_
    refine uu_aload_n dX12_boxMade_40 rfl (List.mem_of_getElem? (i := 1) rfl) ?_
    refine uu_geti (ci := 12) (N := 153) fX12_799 (by decide) so_1079.is (by decide) (by decide) dX12_boxMade_41 ?_
    refine uu_imul dX12_boxMade_44 ?_
    refine uu_iload_n dX12_boxMade_45 rfl (List.mem_of_getElem? (i := 0) rfl) ?_
    refine uu_iadd dX12_boxMade_46 ?_
    refine uu_aload_n dX12_boxMade_47 rfl (List.mem_of_getElem? (i := 1) rfl) ?_
    refine uu_geta (ci := 12) (N := 153) fX12_346 (by decide) so_1079.is (by decide) (c := 1117) (by decide) dX12_boxMade_48 ?_
    refine uu_iload_n dX12_boxMade_51 rfl (List.mem_of_getElem? (i := 2) rfl) ?_
    obtain ⟨v8, e9, h⟩ := uu_ob h
    refine uu_iald e9 dX12_boxMade_52 ?_
    obtain ⟨s10, e11, h⟩ := uu_ob h
    refine uu_iast e11 dX12_boxMade_53 ?_
    refine uu_iconst (v := 0) dX12_boxMade_54 (by decide) ?_
    refine uu_istore_n dX12_boxMade_55 rfl (by decide) rfl ?_
    refine uu_lv [2, 3, 1, 0] (lv' := [(0, .ref (B + 1079)), (1, .int x1), (2, .int v4), (3, .int 0)]) rfl ?_
    exact xn_X12_boxMade_56 uk  _ _ _ _ _ _ h
  · replace h := uu_neg c3 h
    refine uu_iload_n dX12_boxMade_10 rfl (List.mem_of_getElem? (i := 0) rfl) ?_
    have hr := Option.some.inj h
    subst hr
    exact uu_iret rfl dX12_boxMade_11
abbrev mX12_hasField : hM := (yX12_hasField, cX12_hasField, 4, (some (.boolean)))
theorem dX12_hasField_4 : decode cX12_hasField 4 = .ok (.iload_n 3, 1) := by decide +kernel
theorem dX12_hasField_5 : decode cX12_hasField 5 = .ok (.aload_n 0, 1) := by decide +kernel
theorem dX12_hasField_6 : decode cX12_hasField 6 = .ok (.getfield 85, 3) := by decide +kernel
theorem dX12_hasField_9 : decode cX12_hasField 9 = .ok (.if_icmp .ge 32, 3) := by decide +kernel
theorem dX12_hasField_41 : decode cX12_hasField 41 = .ok (.iload_n 2, 1) := by decide +kernel
theorem dX12_hasField_42 : decode cX12_hasField 42 = .ok (.ireturn, 1) := by decide +kernel
theorem dX12_hasField_12 : decode cX12_hasField 12 = .ok (.aload_n 0, 1) := by decide +kernel
theorem dX12_hasField_13 : decode cX12_hasField 13 = .ok (.iload_n 3, 1) := by decide +kernel
theorem kX12_oneName : h_ml mX12_oneName 1 := ⟨h_t10 61 rfl rfl, h_t1 16 rfl rfl, ⟨by decide, by decide, by decide +kernel⟩, by decide⟩
theorem lX12_811 : Cond.methodLink RX12 811 mX12_oneName.1 ∈ lw_g := h_t10 58 rfl rfl
theorem sX12_oneName : Cond.instanceMethod mX12_oneName.1 ∈ lw_g ∧ Cond.selects mX12_oneName.1.cls mX12_oneName.1 mX12_oneName.1 ∈ lw_g := ⟨h_t10 60 rfl rfl, h_ins 211 rfl⟩
theorem dX12_hasField_14 : decode cX12_hasField 14 = .ok (.invokevirtual 811, 3) := by decide +kernel
theorem dX12_hasField_17 : decode cX12_hasField 17 = .ok (.iload_n 2, 1) := by decide +kernel
theorem dX12_hasField_18 : decode cX12_hasField 18 = .ok (.ifCond .ne 11, 3) := by decide +kernel
theorem dX12_hasField_29 : decode cX12_hasField 29 = .ok (.iconst 1, 1) := by decide +kernel
theorem dX12_hasField_30 : decode cX12_hasField 30 = .ok (.goto 4, 3) := by decide +kernel
theorem dX12_hasField_34 : decode cX12_hasField 34 = .ok (.istore_n 2, 1) := by decide +kernel
theorem dX12_hasField_35 : decode cX12_hasField 35 = .ok (.iinc 3 1, 3) := by decide +kernel
theorem dX12_hasField_38 : decode cX12_hasField 38 = .ok (.goto (-34), 3) := by decide +kernel
theorem dX12_hasField_21 : decode cX12_hasField 21 = .ok (.aload_n 0, 1) := by decide +kernel
theorem dX12_hasField_22 : decode cX12_hasField 22 = .ok (.aload_n 1, 1) := by decide +kernel
theorem dX12_hasField_23 : decode cX12_hasField 23 = .ok (.invokevirtual 158, 3) := by decide +kernel
theorem dX12_hasField_26 : decode cX12_hasField 26 = .ok (.ifCond .eq 7, 3) := by decide +kernel
theorem dX12_hasField_33 : decode cX12_hasField 33 = .ok (.iconst 0, 1) := by decide +kernel
theorem dX12_hasField_0 : decode cX12_hasField 0 = .ok (.iconst 0, 1) := by decide +kernel
theorem dX12_hasField_1 : decode cX12_hasField 1 = .ok (.istore_n 2, 1) := by decide +kernel
theorem dX12_hasField_2 : decode cX12_hasField 2 = .ok (.iconst 0, 1) := by decide +kernel
theorem dX12_hasField_3 : decode cX12_hasField 3 = .ok (.istore_n 3, 1) := by decide +kernel
def fb_X12_hasField_4 (K4 : List Nat → Bool → Int32 → uS → Option (uS × Bool)) (w1 : List Nat) (b2 : Bool) (x3 : Int32) (s : uS) : Option (uS × Bool) := if (s.I 1079 14) ≤ x3 then (some (s, b2)) else ((fn_X12_oneName x3 s).bind fun s2 => if b2 = true then (K4 w1 true (x3 + 1) s2) else ((fn_X12_oneIs w1 s2).bind fun r5 => if r5.2 = true then (K4 w1 true (x3 + 1) r5.1) else (K4 w1 false (x3 + 1) r5.1)))
set_option maxRecDepth 100000 in
set_option maxHeartbeats 4000000 in
theorem xb_X12_hasField_4 {l : Launch} {D : va_G} {A : Nat → ClassId} {B : Nat} {Z : State → Heap → Prop} {vF : Value} (uk : uK B Z vF) {K4 : List Nat → Bool → Int32 → uS → Option (uS × Bool)} (hK4 : ∀ (w1 : List Nat) (b2 : Bool) (x3 : Int32) {qw1 pw1 : Nat} (hw1 : uStr B Z qw1 pw1 w1) (s : uS) (r : (uS × Bool)), K4 w1 b2 x3 s = some r → GU l D A B Z mX12_hasField 6 (r.1, some (.int (bI r.2))) s 4 [(0, .ref (B + 1079)), (1, .ref qw1), (2, .int (bI b2)), (3, .int x3)] []) {w1 : List Nat} {b2 : Bool} {x3 : Int32} {s : uS} {r : (uS × Bool)} {qw1 pw1 : Nat} (hw1 : uStr B Z qw1 pw1 w1) (h : fb_X12_hasField_4 K4 w1 b2 x3 s = some r) : GU l D A B Z mX12_hasField 6 (r.1, some (.int (bI r.2))) s 4 [(0, .ref (B + 1079)), (1, .ref qw1), (2, .int (bI b2)), (3, .int x3)] [] := by
  unfold fb_X12_hasField_4 at h
  refine uu_iload_n dX12_hasField_4 rfl (List.mem_of_getElem? (i := 3) rfl) ?_
  refine uu_aload_n dX12_hasField_5 rfl (List.mem_of_getElem? (i := 0) rfl) ?_
  refine uu_geti (ci := 12) (N := 153) fX12_85 (by decide) so_1079.is (by decide) (by decide) dX12_hasField_6 ?_
  refine uu_icmp_ge (tgt := 41) dX12_hasField_9 (by decide) (fun c1 => ?_) (fun c1 => ?_)
  · replace h := uu_pos c1 h
    refine uu_iload_n dX12_hasField_41 rfl (List.mem_of_getElem? (i := 2) rfl) ?_
    have hr := Option.some.inj h
    subst hr
    exact uu_zret (x := bI b2) rfl (bI_z _) dX12_hasField_42
  · replace h := uu_neg c1 h
    refine uu_aload_n dX12_hasField_12 rfl (List.mem_of_getElem? (i := 0) rfl) ?_
    refine uu_iload_n dX12_hasField_13 rfl (List.mem_of_getElem? (i := 3) rfl) ?_
    obtain ⟨s2, e3, h⟩ := uu_ob h
    refine uu_cv (d1 := 0) (k := 1079) (ci := 12) (T := TX12) (N := 153) (As := [.int x3]) (st := []) (st' := []) (xc_X12_oneName uk  e3) so_1079.is (by decide) rfl kX12_oneName lX12_811 sX12_oneName (by decide) (Nat.le_of_ble_eq_true rfl) dX12_hasField_14 rfl ?_
    refine uu_iload_n dX12_hasField_17 rfl (List.mem_of_getElem? (i := 2) rfl) ?_
    refine uu_ifb_ne (tgt := 29) dX12_hasField_18 (by decide) (fun c4 => ?_) (fun c4 => ?_)
    · replace h := uu_pos c4 h
      refine uu_iconst (v := 1) dX12_hasField_29 (by decide) ?_
      refine uu_goto (tgt := 34) dX12_hasField_30 (by decide) ?_
      refine uu_istore_n dX12_hasField_34 rfl (by decide) rfl ?_
      refine uu_iinc (v := x3 + 1) dX12_hasField_35 (k := 3) rfl rfl (by decide) rfl ?_
      refine uu_goto (tgt := 4) dX12_hasField_38 (by decide) ?_
      refine uu_lv [2, 3, 1, 0] (lv' := [(0, .ref (B + 1079)), (1, .ref qw1), (2, .int 1), (3, .int (x3 + 1))]) rfl ?_
      exact hK4 w1 true (x3 + 1) hw1 _ _ h
    · replace h := uu_neg c4 h
      refine uu_aload_n dX12_hasField_21 rfl (List.mem_of_getElem? (i := 0) rfl) ?_
      refine uu_aload_n dX12_hasField_22 rfl (List.mem_of_getElem? (i := 1) rfl) ?_
      obtain ⟨r5, e6, h⟩ := uu_ob h
      refine uu_cv (d1 := 5) (k := 1079) (ci := 12) (T := TX12) (N := 153) (As := [.ref qw1]) (st := []) (st' := [.int (bI r5.2)]) (xc_X12_oneIs uk hw1 e6) so_1079.is (by decide) rfl kX12_oneIs lX12_158 sX12_oneIs (by decide) (Nat.le_of_ble_eq_true rfl) dX12_hasField_23 rfl ?_
      refine uu_ifb_eq (tgt := 33) dX12_hasField_26 (by decide) (fun c7 => ?_) (fun c7 => ?_)
      · replace h := uu_neg c7 h
        refine uu_iconst (v := 0) dX12_hasField_33 (by decide) ?_
        refine uu_istore_n dX12_hasField_34 rfl (by decide) rfl ?_
        refine uu_iinc (v := x3 + 1) dX12_hasField_35 (k := 3) rfl rfl (by decide) rfl ?_
        refine uu_goto (tgt := 4) dX12_hasField_38 (by decide) ?_
        refine uu_lv [2, 3, 1, 0] (lv' := [(0, .ref (B + 1079)), (1, .ref qw1), (2, .int 0), (3, .int (x3 + 1))]) rfl ?_
        exact hK4 w1 false (x3 + 1) hw1 _ _ h
      · replace h := uu_pos c7 h
        refine uu_iconst (v := 1) dX12_hasField_29 (by decide) ?_
        refine uu_goto (tgt := 34) dX12_hasField_30 (by decide) ?_
        refine uu_istore_n dX12_hasField_34 rfl (by decide) rfl ?_
        refine uu_iinc (v := x3 + 1) dX12_hasField_35 (k := 3) rfl rfl (by decide) rfl ?_
        refine uu_goto (tgt := 4) dX12_hasField_38 (by decide) ?_
        refine uu_lv [2, 3, 1, 0] (lv' := [(0, .ref (B + 1079)), (1, .ref qw1), (2, .int 1), (3, .int (x3 + 1))]) rfl ?_
        exact hK4 w1 true (x3 + 1) hw1 _ _ h
def fn_X12_hasField_4  : Nat → List Nat → Bool → Int32 → uS → Option (uS × Bool)
  | 0 => fun _ _ _ _ => none
  | n + 1 => fb_X12_hasField_4 (fn_X12_hasField_4  n)
set_option maxRecDepth 100000 in
set_option maxHeartbeats 4000000 in
theorem xn_X12_hasField_4 {l : Launch} {D : va_G} {A : Nat → ClassId} {B : Nat} {Z : State → Heap → Prop} {vF : Value} (uk : uK B Z vF)   : ∀ (n : Nat) (w1 : List Nat) (b2 : Bool) (x3 : Int32) {qw1 pw1 : Nat} (hw1 : uStr B Z qw1 pw1 w1) (s : uS) (r : (uS × Bool)), fn_X12_hasField_4  n w1 b2 x3 s = some r → GU l D A B Z mX12_hasField 6 (r.1, some (.int (bI r.2))) s 4 [(0, .ref (B + 1079)), (1, .ref qw1), (2, .int (bI b2)), (3, .int x3)] [] := by
  intro n
  induction n with
  | zero => intro w1 b2 x3 qw1 pw1 hw1 s r h
            cases h
  | succ n ih => intro w1 b2 x3 qw1 pw1 hw1 s r h
                 exact xb_X12_hasField_4 uk ih hw1 h
def fn_X12_hasField (w1 : List Nat) (s : uS) : Option (uS × Bool) := fn_X12_hasField_4 uFu w1 false 0 s
set_option maxRecDepth 100000 in
set_option maxHeartbeats 4000000 in
theorem xc_X12_hasField {l : Launch} {D : va_G} {A : Nat → ClassId} {B : Nat} {Z : State → Heap → Prop} {vF : Value} (uk : uK B Z vF) {w1 : List Nat} {s : uS} {r : (uS × Bool)} {qw1 pw1 : Nat} (hw1 : uStr B Z qw1 pw1 w1) (h : fn_X12_hasField w1 s = some r) : CU l D A B Z 6 mX12_hasField s [.ref (B + 1079), .ref qw1] (r.1, some (.int (bI r.2))) := by
  unfold fn_X12_hasField at h
  refine cu_of rfl uk.1.1 (Nat.le_of_ble_eq_true rfl) ?_
  show GU _ _ _ _ _ _ _ _ _ 0 [(0, .ref (B + 1079)), (1, .ref qw1)] []
  refine uu_iconst (v := 0) dX12_hasField_0 (by decide) ?_
  refine uu_istore_n dX12_hasField_1 rfl (by decide) rfl ?_
  refine uu_iconst (v := 0) dX12_hasField_2 (by decide) ?_
  refine uu_istore_n dX12_hasField_3 rfl (by decide) rfl ?_
  refine uu_lv [2, 3, 1, 0] (lv' := [(0, .ref (B + 1079)), (1, .ref qw1), (2, .int 0), (3, .int 0)]) rfl ?_
  exact xn_X12_hasField_4 uk  _ _ _ _ hw1 _ _ h
abbrev mX12_isAutomatic : hM := (yX12_isAutomatic, cX12_isAutomatic, 3, (some (.boolean)))
theorem dX12_isAutomatic_4 : decode cX12_isAutomatic 4 = .ok (.iload_n 2, 1) := by decide +kernel
theorem dX12_isAutomatic_5 : decode cX12_isAutomatic 5 = .ok (.aload_n 0, 1) := by decide +kernel
theorem dX12_isAutomatic_6 : decode cX12_isAutomatic 6 = .ok (.getfield 85, 3) := by decide +kernel
theorem dX12_isAutomatic_9 : decode cX12_isAutomatic 9 = .ok (.if_icmp .ge 52, 3) := by decide +kernel
theorem dX12_isAutomatic_61 : decode cX12_isAutomatic 61 = .ok (.iload_n 1, 1) := by decide +kernel
theorem dX12_isAutomatic_62 : decode cX12_isAutomatic 62 = .ok (.ireturn, 1) := by decide +kernel
theorem dX12_isAutomatic_12 : decode cX12_isAutomatic 12 = .ok (.aload_n 0, 1) := by decide +kernel
theorem dX12_isAutomatic_13 : decode cX12_isAutomatic 13 = .ok (.iload_n 2, 1) := by decide +kernel
theorem dX12_isAutomatic_14 : decode cX12_isAutomatic 14 = .ok (.invokevirtual 811, 3) := by decide +kernel
theorem dX12_isAutomatic_17 : decode cX12_isAutomatic 17 = .ok (.aload_n 0, 1) := by decide +kernel
theorem dX12_isAutomatic_18 : decode cX12_isAutomatic 18 = .ok (.ldc_w 814, 3) := by decide +kernel
theorem dX12_isAutomatic_21 : decode cX12_isAutomatic 21 = .ok (.invokevirtual 158, 3) := by decide +kernel
theorem dX12_isAutomatic_24 : decode cX12_isAutomatic 24 = .ok (.ifCond .ne 6, 3) := by decide +kernel
theorem dX12_isAutomatic_30 : decode cX12_isAutomatic 30 = .ok (.aload_n 0, 1) := by decide +kernel
theorem dX12_isAutomatic_31 : decode cX12_isAutomatic 31 = .ok (.iload_n 2, 1) := by decide +kernel
theorem dX12_isAutomatic_32 : decode cX12_isAutomatic 32 = .ok (.invokevirtual 661, 3) := by decide +kernel
theorem dX12_isAutomatic_35 : decode cX12_isAutomatic 35 = .ok (.iload_n 1, 1) := by decide +kernel
theorem dX12_isAutomatic_36 : decode cX12_isAutomatic 36 = .ok (.ifCond .ne 13, 3) := by decide +kernel
theorem dX12_isAutomatic_49 : decode cX12_isAutomatic 49 = .ok (.iconst 1, 1) := by decide +kernel
theorem dX12_isAutomatic_50 : decode cX12_isAutomatic 50 = .ok (.goto 4, 3) := by decide +kernel
theorem dX12_isAutomatic_54 : decode cX12_isAutomatic 54 = .ok (.istore_n 1, 1) := by decide +kernel
theorem dX12_isAutomatic_55 : decode cX12_isAutomatic 55 = .ok (.iinc 2 1, 3) := by decide +kernel
theorem dX12_isAutomatic_58 : decode cX12_isAutomatic 58 = .ok (.goto (-54), 3) := by decide +kernel
theorem dX12_isAutomatic_39 : decode cX12_isAutomatic 39 = .ok (.aload_n 0, 1) := by decide +kernel
theorem dX12_isAutomatic_40 : decode cX12_isAutomatic 40 = .ok (.ldc_w 816, 3) := by decide +kernel
theorem dX12_isAutomatic_43 : decode cX12_isAutomatic 43 = .ok (.invokevirtual 158, 3) := by decide +kernel
theorem dX12_isAutomatic_46 : decode cX12_isAutomatic 46 = .ok (.ifCond .ne 7, 3) := by decide +kernel
theorem dX12_isAutomatic_53 : decode cX12_isAutomatic 53 = .ok (.iconst 0, 1) := by decide +kernel
theorem dX12_isAutomatic_27 : decode cX12_isAutomatic 27 = .ok (.goto 28, 3) := by decide +kernel
theorem dX12_isAutomatic_0 : decode cX12_isAutomatic 0 = .ok (.iconst 0, 1) := by decide +kernel
theorem dX12_isAutomatic_1 : decode cX12_isAutomatic 1 = .ok (.istore_n 1, 1) := by decide +kernel
theorem dX12_isAutomatic_2 : decode cX12_isAutomatic 2 = .ok (.iconst 0, 1) := by decide +kernel
theorem dX12_isAutomatic_3 : decode cX12_isAutomatic 3 = .ok (.istore_n 2, 1) := by decide +kernel
def fb_X12_isAutomatic_4 (K4 : Bool → Int32 → uS → Option (uS × Bool)) (b1 : Bool) (x2 : Int32) (s : uS) : Option (uS × Bool) := if (s.I 1079 14) ≤ x2 then (some (s, b1)) else ((fn_X12_oneName x2 s).bind fun s2 => (fn_X12_oneIs kW_143 s2).bind fun r5 => if r5.2 = true then ((fn_X12_oneValue x2 r5.1).bind fun s8 => if b1 = true then (K4 true (x2 + 1) s8) else ((fn_X12_oneIs kW_144 s8).bind fun r12 => if r12.2 = true then (K4 false (x2 + 1) r12.1) else (K4 true (x2 + 1) r12.1))) else (K4 b1 (x2 + 1) r5.1))
set_option maxRecDepth 100000 in
set_option maxHeartbeats 4000000 in
theorem xb_X12_isAutomatic_4 {l : Launch} {D : va_G} {A : Nat → ClassId} {B : Nat} {Z : State → Heap → Prop} {vF : Value} (uk : uK B Z vF) {K4 : Bool → Int32 → uS → Option (uS × Bool)} (hK4 : ∀ (b1 : Bool) (x2 : Int32)  (s : uS) (r : (uS × Bool)), K4 b1 x2 s = some r → GU l D A B Z mX12_isAutomatic 6 (r.1, some (.int (bI r.2))) s 4 [(0, .ref (B + 1079)), (1, .int (bI b1)), (2, .int x2)] []) {b1 : Bool} {x2 : Int32} {s : uS} {r : (uS × Bool)}  (h : fb_X12_isAutomatic_4 K4 b1 x2 s = some r) : GU l D A B Z mX12_isAutomatic 6 (r.1, some (.int (bI r.2))) s 4 [(0, .ref (B + 1079)), (1, .int (bI b1)), (2, .int x2)] [] := by
  unfold fb_X12_isAutomatic_4 at h
  refine uu_iload_n dX12_isAutomatic_4 rfl (List.mem_of_getElem? (i := 2) rfl) ?_
  refine uu_aload_n dX12_isAutomatic_5 rfl (List.mem_of_getElem? (i := 0) rfl) ?_
  refine uu_geti (ci := 12) (N := 153) fX12_85 (by decide) so_1079.is (by decide) (by decide) dX12_isAutomatic_6 ?_
  refine uu_icmp_ge (tgt := 61) dX12_isAutomatic_9 (by decide) (fun c1 => ?_) (fun c1 => ?_)
  · replace h := uu_pos c1 h
    refine uu_iload_n dX12_isAutomatic_61 rfl (List.mem_of_getElem? (i := 1) rfl) ?_
    have hr := Option.some.inj h
    subst hr
    exact uu_zret (x := bI b1) rfl (bI_z _) dX12_isAutomatic_62
  · replace h := uu_neg c1 h
    refine uu_aload_n dX12_isAutomatic_12 rfl (List.mem_of_getElem? (i := 0) rfl) ?_
    refine uu_iload_n dX12_isAutomatic_13 rfl (List.mem_of_getElem? (i := 2) rfl) ?_
    obtain ⟨s2, e3, h⟩ := uu_ob h
    refine uu_cv (d1 := 0) (k := 1079) (ci := 12) (T := TX12) (N := 153) (As := [.int x2]) (st := []) (st' := []) (xc_X12_oneName uk  e3) so_1079.is (by decide) rfl kX12_oneName lX12_811 sX12_oneName (by decide) (Nat.le_of_ble_eq_true rfl) dX12_isAutomatic_14 rfl ?_
    refine uu_aload_n dX12_isAutomatic_17 rfl (List.mem_of_getElem? (i := 0) rfl) ?_
    obtain ⟨cq4, cp4, cv4, cw4⟩ := uk.2.1 143 _ rfl
    refine uu_ldcwS cv4 dX12_isAutomatic_18 ?_
    obtain ⟨r5, e6, h⟩ := uu_ob h
    refine uu_cv (d1 := 5) (k := 1079) (ci := 12) (T := TX12) (N := 153) (As := [.ref cq4]) (st := []) (st' := [.int (bI r5.2)]) (xc_X12_oneIs uk cw4 e6) so_1079.is (by decide) rfl kX12_oneIs lX12_158 sX12_oneIs (by decide) (Nat.le_of_ble_eq_true rfl) dX12_isAutomatic_21 rfl ?_
    refine uu_ifb_ne (tgt := 30) dX12_isAutomatic_24 (by decide) (fun c7 => ?_) (fun c7 => ?_)
    · replace h := uu_pos c7 h
      refine uu_aload_n dX12_isAutomatic_30 rfl (List.mem_of_getElem? (i := 0) rfl) ?_
      refine uu_iload_n dX12_isAutomatic_31 rfl (List.mem_of_getElem? (i := 2) rfl) ?_
      obtain ⟨s8, e9, h⟩ := uu_ob h
      refine uu_cv (d1 := 0) (k := 1079) (ci := 12) (T := TX12) (N := 153) (As := [.int x2]) (st := []) (st' := []) (xc_X12_oneValue uk  e9) so_1079.is (by decide) rfl kX12_oneValue lX12_661 sX12_oneValue (by decide) (Nat.le_of_ble_eq_true rfl) dX12_isAutomatic_32 rfl ?_
      refine uu_iload_n dX12_isAutomatic_35 rfl (List.mem_of_getElem? (i := 1) rfl) ?_
      refine uu_ifb_ne (tgt := 49) dX12_isAutomatic_36 (by decide) (fun c10 => ?_) (fun c10 => ?_)
      · replace h := uu_pos c10 h
        refine uu_iconst (v := 1) dX12_isAutomatic_49 (by decide) ?_
        refine uu_goto (tgt := 54) dX12_isAutomatic_50 (by decide) ?_
        refine uu_istore_n dX12_isAutomatic_54 rfl (by decide) rfl ?_
        refine uu_iinc (v := x2 + 1) dX12_isAutomatic_55 (k := 2) rfl rfl (by decide) rfl ?_
        refine uu_goto (tgt := 4) dX12_isAutomatic_58 (by decide) ?_
        refine uu_lv [2, 1, 0] (lv' := [(0, .ref (B + 1079)), (1, .int 1), (2, .int (x2 + 1))]) rfl ?_
        exact hK4 true (x2 + 1) _ _ h
      · replace h := uu_neg c10 h
        refine uu_aload_n dX12_isAutomatic_39 rfl (List.mem_of_getElem? (i := 0) rfl) ?_
        obtain ⟨cq11, cp11, cv11, cw11⟩ := uk.2.1 144 _ rfl
        refine uu_ldcwS cv11 dX12_isAutomatic_40 ?_
        obtain ⟨r12, e13, h⟩ := uu_ob h
        refine uu_cv (d1 := 5) (k := 1079) (ci := 12) (T := TX12) (N := 153) (As := [.ref cq11]) (st := []) (st' := [.int (bI r12.2)]) (xc_X12_oneIs uk cw11 e13) so_1079.is (by decide) rfl kX12_oneIs lX12_158 sX12_oneIs (by decide) (Nat.le_of_ble_eq_true rfl) dX12_isAutomatic_43 rfl ?_
        refine uu_ifb_ne (tgt := 53) dX12_isAutomatic_46 (by decide) (fun c14 => ?_) (fun c14 => ?_)
        · replace h := uu_pos c14 h
          refine uu_iconst (v := 0) dX12_isAutomatic_53 (by decide) ?_
          refine uu_istore_n dX12_isAutomatic_54 rfl (by decide) rfl ?_
          refine uu_iinc (v := x2 + 1) dX12_isAutomatic_55 (k := 2) rfl rfl (by decide) rfl ?_
          refine uu_goto (tgt := 4) dX12_isAutomatic_58 (by decide) ?_
          refine uu_lv [2, 1, 0] (lv' := [(0, .ref (B + 1079)), (1, .int 0), (2, .int (x2 + 1))]) rfl ?_
          exact hK4 false (x2 + 1) _ _ h
        · replace h := uu_neg c14 h
          refine uu_iconst (v := 1) dX12_isAutomatic_49 (by decide) ?_
          refine uu_goto (tgt := 54) dX12_isAutomatic_50 (by decide) ?_
          refine uu_istore_n dX12_isAutomatic_54 rfl (by decide) rfl ?_
          refine uu_iinc (v := x2 + 1) dX12_isAutomatic_55 (k := 2) rfl rfl (by decide) rfl ?_
          refine uu_goto (tgt := 4) dX12_isAutomatic_58 (by decide) ?_
          refine uu_lv [2, 1, 0] (lv' := [(0, .ref (B + 1079)), (1, .int 1), (2, .int (x2 + 1))]) rfl ?_
          exact hK4 true (x2 + 1) _ _ h
    · replace h := uu_neg c7 h
      refine uu_goto (tgt := 55) dX12_isAutomatic_27 (by decide) ?_
      refine uu_iinc (v := x2 + 1) dX12_isAutomatic_55 (k := 2) rfl rfl (by decide) rfl ?_
      refine uu_goto (tgt := 4) dX12_isAutomatic_58 (by decide) ?_
      refine uu_lv [1, 2, 0] (lv' := [(0, .ref (B + 1079)), (1, .int (bI b1)), (2, .int (x2 + 1))]) rfl ?_
      exact hK4 b1 (x2 + 1) _ _ h
def fn_X12_isAutomatic_4  : Nat → Bool → Int32 → uS → Option (uS × Bool)
  | 0 => fun _ _ _ => none
  | n + 1 => fb_X12_isAutomatic_4 (fn_X12_isAutomatic_4  n)
set_option maxRecDepth 100000 in
set_option maxHeartbeats 4000000 in
theorem xn_X12_isAutomatic_4 {l : Launch} {D : va_G} {A : Nat → ClassId} {B : Nat} {Z : State → Heap → Prop} {vF : Value} (uk : uK B Z vF)   : ∀ (n : Nat) (b1 : Bool) (x2 : Int32)  (s : uS) (r : (uS × Bool)), fn_X12_isAutomatic_4  n b1 x2 s = some r → GU l D A B Z mX12_isAutomatic 6 (r.1, some (.int (bI r.2))) s 4 [(0, .ref (B + 1079)), (1, .int (bI b1)), (2, .int x2)] [] := by
  intro n
  induction n with
  | zero => intro b1 x2 s r h
            cases h
  | succ n ih => intro b1 x2 s r h
                 exact xb_X12_isAutomatic_4 uk ih  h
def fn_X12_isAutomatic  (s : uS) : Option (uS × Bool) := fn_X12_isAutomatic_4 uFu false 0 s
set_option maxRecDepth 100000 in
set_option maxHeartbeats 4000000 in
theorem xc_X12_isAutomatic {l : Launch} {D : va_G} {A : Nat → ClassId} {B : Nat} {Z : State → Heap → Prop} {vF : Value} (uk : uK B Z vF)  {s : uS} {r : (uS × Bool)}  (h : fn_X12_isAutomatic  s = some r) : CU l D A B Z 6 mX12_isAutomatic s [.ref (B + 1079)] (r.1, some (.int (bI r.2))) := by
  unfold fn_X12_isAutomatic at h
  refine cu_of rfl uk.1.1 (Nat.le_of_ble_eq_true rfl) ?_
  show GU _ _ _ _ _ _ _ _ _ 0 [(0, .ref (B + 1079))] []
  refine uu_iconst (v := 0) dX12_isAutomatic_0 (by decide) ?_
  refine uu_istore_n dX12_isAutomatic_1 rfl (by decide) rfl ?_
  refine uu_iconst (v := 0) dX12_isAutomatic_2 (by decide) ?_
  refine uu_istore_n dX12_isAutomatic_3 rfl (by decide) rfl ?_
  refine uu_lv [2, 1, 0] (lv' := [(0, .ref (B + 1079)), (1, .int 0), (2, .int 0)]) rfl ?_
  exact xn_X12_isAutomatic_4 uk  _ _ _ _ _ h
abbrev mX12_beginsLow : hM := (yX12_beginsLow, cX12_beginsLow, 5, (some (.boolean)))
theorem dX12_beginsLow_17 : decode cX12_beginsLow 17 = .ok (.iload 4, 2) := by decide +kernel
theorem dX12_beginsLow_19 : decode cX12_beginsLow 19 = .ok (.aload_n 1, 1) := by decide +kernel
theorem dX12_beginsLow_20 : decode cX12_beginsLow 20 = .ok (.invokevirtual 58, 3) := by decide +kernel
theorem dX12_beginsLow_23 : decode cX12_beginsLow 23 = .ok (.if_icmp .ge 38, 3) := by decide +kernel
theorem dX12_beginsLow_61 : decode cX12_beginsLow 61 = .ok (.iload_n 3, 1) := by decide +kernel
theorem dX12_beginsLow_62 : decode cX12_beginsLow 62 = .ok (.ireturn, 1) := by decide +kernel
theorem dX12_beginsLow_26 : decode cX12_beginsLow 26 = .ok (.iload_n 3, 1) := by decide +kernel
theorem dX12_beginsLow_27 : decode cX12_beginsLow 27 = .ok (.ifCond .eq 34, 3) := by decide +kernel
theorem dX12_beginsLow_30 : decode cX12_beginsLow 30 = .ok (.aload_n 0, 1) := by decide +kernel
theorem dX12_beginsLow_31 : decode cX12_beginsLow 31 = .ok (.getfield 116, 3) := by decide +kernel
theorem dX12_beginsLow_34 : decode cX12_beginsLow 34 = .ok (.iload 4, 2) := by decide +kernel
theorem dX12_beginsLow_36 : decode cX12_beginsLow 36 = .ok (.iaload, 1) := by decide +kernel
theorem dX12_beginsLow_37 : decode cX12_beginsLow 37 = .ok (.invokestatic 119, 3) := by decide +kernel
theorem dX12_beginsLow_40 : decode cX12_beginsLow 40 = .ok (.aload_n 1, 1) := by decide +kernel
theorem dX12_beginsLow_41 : decode cX12_beginsLow 41 = .ok (.iload 4, 2) := by decide +kernel
theorem dX12_beginsLow_43 : decode cX12_beginsLow 43 = .ok (.invokevirtual 64, 3) := by decide +kernel
theorem dX12_beginsLow_46 : decode cX12_beginsLow 46 = .ok (.if_icmp .ne 7, 3) := by decide +kernel
theorem dX12_beginsLow_53 : decode cX12_beginsLow 53 = .ok (.iconst 0, 1) := by decide +kernel
theorem dX12_beginsLow_54 : decode cX12_beginsLow 54 = .ok (.istore_n 3, 1) := by decide +kernel
theorem dX12_beginsLow_55 : decode cX12_beginsLow 55 = .ok (.iinc 4 1, 3) := by decide +kernel
theorem dX12_beginsLow_58 : decode cX12_beginsLow 58 = .ok (.goto (-41), 3) := by decide +kernel
theorem dX12_beginsLow_49 : decode cX12_beginsLow 49 = .ok (.iconst 1, 1) := by decide +kernel
theorem dX12_beginsLow_50 : decode cX12_beginsLow 50 = .ok (.goto 4, 3) := by decide +kernel
theorem dX12_beginsLow_0 : decode cX12_beginsLow 0 = .ok (.iload_n 2, 1) := by decide +kernel
theorem dX12_beginsLow_1 : decode cX12_beginsLow 1 = .ok (.aload_n 1, 1) := by decide +kernel
theorem dX12_beginsLow_2 : decode cX12_beginsLow 2 = .ok (.invokevirtual 58, 3) := by decide +kernel
theorem dX12_beginsLow_5 : decode cX12_beginsLow 5 = .ok (.if_icmp .lt 7, 3) := by decide +kernel
theorem dX12_beginsLow_12 : decode cX12_beginsLow 12 = .ok (.iconst 0, 1) := by decide +kernel
theorem dX12_beginsLow_13 : decode cX12_beginsLow 13 = .ok (.istore_n 3, 1) := by decide +kernel
theorem dX12_beginsLow_14 : decode cX12_beginsLow 14 = .ok (.iconst 0, 1) := by decide +kernel
theorem dX12_beginsLow_15 : decode cX12_beginsLow 15 = .ok (.istore 4, 2) := by decide +kernel
theorem dX12_beginsLow_8 : decode cX12_beginsLow 8 = .ok (.iconst 1, 1) := by decide +kernel
theorem dX12_beginsLow_9 : decode cX12_beginsLow 9 = .ok (.goto 4, 3) := by decide +kernel
def fb_X12_beginsLow_17 (K17 : List Nat → Bool → Int32 → uS → Option Bool) (w1 : List Nat) (b3 : Bool) (x4 : Int32) (s : uS) : Option Bool := if (nI w1.length) ≤ x4 then (some b3) else (if b3 = true then ((iget 20 s 1093 x4).bind fun v3 => (fn_X12_low v3 s).bind fun v5 => (stget w1 x4).bind fun v7 => if v5 = v7 then (K17 w1 true (x4 + 1) s) else (K17 w1 false (x4 + 1) s)) else (some b3))
set_option maxRecDepth 100000 in
set_option maxHeartbeats 4000000 in
theorem xb_X12_beginsLow_17 {l : Launch} {D : va_G} {A : Nat → ClassId} {B : Nat} {Z : State → Heap → Prop} {vF : Value} (uk : uK B Z vF) {K17 : List Nat → Bool → Int32 → uS → Option Bool} (hK17 : ∀ (w1 : List Nat) (b3 : Bool) (x4 : Int32) {qw1 pw1 : Nat} (hw1 : uStr B Z qw1 pw1 w1) (s : uS) (r : Bool), K17 w1 b3 x4 s = some r → GU l D A B Z mX12_beginsLow 4 (s, some (.int (bI r))) s 17 [(0, .ref (B + 1079)), (1, .ref qw1), (3, .int (bI b3)), (4, .int x4)] []) {w1 : List Nat} {b3 : Bool} {x4 : Int32} {s : uS} {r : Bool} {qw1 pw1 : Nat} (hw1 : uStr B Z qw1 pw1 w1) (h : fb_X12_beginsLow_17 K17 w1 b3 x4 s = some r) : GU l D A B Z mX12_beginsLow 4 (s, some (.int (bI r))) s 17 [(0, .ref (B + 1079)), (1, .ref qw1), (3, .int (bI b3)), (4, .int x4)] [] := by
  unfold fb_X12_beginsLow_17 at h
  refine uu_iload dX12_beginsLow_17 (List.mem_of_getElem? (i := 3) rfl) ?_
  refine uu_aload_n dX12_beginsLow_19 rfl (List.mem_of_getElem? (i := 1) rfl) ?_
  refine uu_slen uk hw1 lX12_58 (by decide) (Nat.le_of_ble_eq_true rfl) dX12_beginsLow_20 ?_
  refine uu_icmp_ge (tgt := 61) dX12_beginsLow_23 (by decide) (fun c1 => ?_) (fun c1 => ?_)
  · replace h := uu_pos c1 h
    refine uu_iload_n dX12_beginsLow_61 rfl (List.mem_of_getElem? (i := 2) rfl) ?_
    have hr := Option.some.inj h
    subst hr
    exact uu_zret (x := bI b3) rfl (bI_z _) dX12_beginsLow_62
  · replace h := uu_neg c1 h
    refine uu_iload_n dX12_beginsLow_26 rfl (List.mem_of_getElem? (i := 2) rfl) ?_
    refine uu_ifb_eq (tgt := 61) dX12_beginsLow_27 (by decide) (fun c2 => ?_) (fun c2 => ?_)
    · replace h := uu_neg c2 h
      refine uu_iload_n dX12_beginsLow_61 rfl (List.mem_of_getElem? (i := 2) rfl) ?_
      have hr := Option.some.inj h
      subst hr
      exact uu_zret (x := bI b3) rfl (bI_z _) dX12_beginsLow_62
    · replace h := uu_pos c2 h
      refine uu_aload_n dX12_beginsLow_30 rfl (List.mem_of_getElem? (i := 0) rfl) ?_
      refine uu_geta (ci := 12) (N := 153) fX12_116 (by decide) so_1079.is (by decide) (c := 1093) (by decide) dX12_beginsLow_31 ?_
      refine uu_iload dX12_beginsLow_34 (List.mem_of_getElem? (i := 3) rfl) ?_
      obtain ⟨v3, e4, h⟩ := uu_ob h
      refine uu_iald e4 dX12_beginsLow_36 ?_
      obtain ⟨v5, e6, h⟩ := uu_ob h
      refine uu_cs (d1 := 0) (As := [.int v3]) (st := []) (st' := [.int v5]) (xc_X12_low uk  e6) kX12_low lX12_119 sX12_low (by decide) (Nat.le_of_ble_eq_true rfl) dX12_beginsLow_37 rfl ?_
      refine uu_aload_n dX12_beginsLow_40 rfl (List.mem_of_getElem? (i := 1) rfl) ?_
      refine uu_iload dX12_beginsLow_41 (List.mem_of_getElem? (i := 3) rfl) ?_
      obtain ⟨v7, e8, h⟩ := uu_ob h
      refine uu_sch uk hw1 e8 lX12_64 (by decide) (Nat.le_of_ble_eq_true rfl) dX12_beginsLow_43 ?_
      refine uu_icmp_ne (tgt := 53) dX12_beginsLow_46 (by decide) (fun c9 => ?_) (fun c9 => ?_)
      · replace h := uu_neg c9 h
        refine uu_iconst (v := 0) dX12_beginsLow_53 (by decide) ?_
        refine uu_istore_n dX12_beginsLow_54 rfl (by decide) rfl ?_
        refine uu_iinc (v := x4 + 1) dX12_beginsLow_55 (k := 3) rfl rfl (by decide) rfl ?_
        refine uu_goto (tgt := 17) dX12_beginsLow_58 (by decide) ?_
        refine uu_lv [2, 3, 1, 0] (lv' := [(0, .ref (B + 1079)), (1, .ref qw1), (3, .int 0), (4, .int (x4 + 1))]) rfl ?_
        exact hK17 w1 false (x4 + 1) hw1 _ _ h
      · replace h := uu_pos c9 h
        refine uu_iconst (v := 1) dX12_beginsLow_49 (by decide) ?_
        refine uu_goto (tgt := 54) dX12_beginsLow_50 (by decide) ?_
        refine uu_istore_n dX12_beginsLow_54 rfl (by decide) rfl ?_
        refine uu_iinc (v := x4 + 1) dX12_beginsLow_55 (k := 3) rfl rfl (by decide) rfl ?_
        refine uu_goto (tgt := 17) dX12_beginsLow_58 (by decide) ?_
        refine uu_lv [2, 3, 1, 0] (lv' := [(0, .ref (B + 1079)), (1, .ref qw1), (3, .int 1), (4, .int (x4 + 1))]) rfl ?_
        exact hK17 w1 true (x4 + 1) hw1 _ _ h
def fn_X12_beginsLow_17  : Nat → List Nat → Bool → Int32 → uS → Option Bool
  | 0 => fun _ _ _ _ => none
  | n + 1 => fb_X12_beginsLow_17 (fn_X12_beginsLow_17  n)
set_option maxRecDepth 100000 in
set_option maxHeartbeats 4000000 in
theorem xn_X12_beginsLow_17 {l : Launch} {D : va_G} {A : Nat → ClassId} {B : Nat} {Z : State → Heap → Prop} {vF : Value} (uk : uK B Z vF)   : ∀ (n : Nat) (w1 : List Nat) (b3 : Bool) (x4 : Int32) {qw1 pw1 : Nat} (hw1 : uStr B Z qw1 pw1 w1) (s : uS) (r : Bool), fn_X12_beginsLow_17  n w1 b3 x4 s = some r → GU l D A B Z mX12_beginsLow 4 (s, some (.int (bI r))) s 17 [(0, .ref (B + 1079)), (1, .ref qw1), (3, .int (bI b3)), (4, .int x4)] [] := by
  intro n
  induction n with
  | zero => intro w1 b3 x4 qw1 pw1 hw1 s r h
            cases h
  | succ n ih => intro w1 b3 x4 qw1 pw1 hw1 s r h
                 exact xb_X12_beginsLow_17 uk ih hw1 h
def fn_X12_beginsLow (w1 : List Nat) (x2 : Int32) (s : uS) : Option Bool := if x2 < (nI w1.length) then (fn_X12_beginsLow_17 uFu w1 false 0 s) else (fn_X12_beginsLow_17 uFu w1 true 0 s)
set_option maxRecDepth 100000 in
set_option maxHeartbeats 4000000 in
theorem xc_X12_beginsLow {l : Launch} {D : va_G} {A : Nat → ClassId} {B : Nat} {Z : State → Heap → Prop} {vF : Value} (uk : uK B Z vF) {w1 : List Nat} {x2 : Int32} {s : uS} {r : Bool} {qw1 pw1 : Nat} (hw1 : uStr B Z qw1 pw1 w1) (h : fn_X12_beginsLow w1 x2 s = some r) : CU l D A B Z 4 mX12_beginsLow s [.ref (B + 1079), .ref qw1, .int x2] (s, some (.int (bI r))) := by
  unfold fn_X12_beginsLow at h
  refine cu_of rfl uk.1.1 (Nat.le_of_ble_eq_true rfl) ?_
  show GU _ _ _ _ _ _ _ _ _ 0 [(0, .ref (B + 1079)), (1, .ref qw1), (2, .int x2)] []
  refine uu_iload_n dX12_beginsLow_0 rfl (List.mem_of_getElem? (i := 2) rfl) ?_
  refine uu_aload_n dX12_beginsLow_1 rfl (List.mem_of_getElem? (i := 1) rfl) ?_
  refine uu_slen uk hw1 lX12_58 (by decide) (Nat.le_of_ble_eq_true rfl) dX12_beginsLow_2 ?_
  refine uu_icmp_lt (tgt := 12) dX12_beginsLow_5 (by decide) (fun c1 => ?_) (fun c1 => ?_)
  · replace h := uu_pos c1 h
    refine uu_iconst (v := 0) dX12_beginsLow_12 (by decide) ?_
    refine uu_istore_n dX12_beginsLow_13 rfl (by decide) rfl ?_
    refine uu_iconst (v := 0) dX12_beginsLow_14 (by decide) ?_
    refine uu_istore dX12_beginsLow_15 (by decide) rfl ?_
    refine uu_lv [2, 3, 1, 0] (lv' := [(0, .ref (B + 1079)), (1, .ref qw1), (3, .int 0), (4, .int 0)]) rfl ?_
    exact xn_X12_beginsLow_17 uk  _ _ _ _ hw1 _ _ h
  · replace h := uu_neg c1 h
    refine uu_iconst (v := 1) dX12_beginsLow_8 (by decide) ?_
    refine uu_goto (tgt := 13) dX12_beginsLow_9 (by decide) ?_
    refine uu_istore_n dX12_beginsLow_13 rfl (by decide) rfl ?_
    refine uu_iconst (v := 0) dX12_beginsLow_14 (by decide) ?_
    refine uu_istore dX12_beginsLow_15 (by decide) rfl ?_
    refine uu_lv [2, 3, 1, 0] (lv' := [(0, .ref (B + 1079)), (1, .ref qw1), (3, .int 1), (4, .int 0)]) rfl ?_
    exact xn_X12_beginsLow_17 uk  _ _ _ _ hw1 _ _ h
abbrev mX12_endsLow : hM := (yX12_endsLow, cX12_endsLow, 6, (some (.boolean)))
theorem dX12_endsLow_21 : decode cX12_endsLow 21 = .ok (.iload 5, 2) := by decide +kernel
theorem dX12_endsLow_23 : decode cX12_endsLow 23 = .ok (.aload_n 1, 1) := by decide +kernel
theorem dX12_endsLow_24 : decode cX12_endsLow 24 = .ok (.invokevirtual 58, 3) := by decide +kernel
theorem dX12_endsLow_27 : decode cX12_endsLow 27 = .ok (.if_icmp .ge 42, 3) := by decide +kernel
theorem dX12_endsLow_69 : decode cX12_endsLow 69 = .ok (.iload 4, 2) := by decide +kernel
theorem dX12_endsLow_71 : decode cX12_endsLow 71 = .ok (.ireturn, 1) := by decide +kernel
theorem dX12_endsLow_30 : decode cX12_endsLow 30 = .ok (.iload 4, 2) := by decide +kernel
theorem dX12_endsLow_32 : decode cX12_endsLow 32 = .ok (.ifCond .eq 37, 3) := by decide +kernel
theorem dX12_endsLow_35 : decode cX12_endsLow 35 = .ok (.aload_n 0, 1) := by decide +kernel
theorem dX12_endsLow_36 : decode cX12_endsLow 36 = .ok (.getfield 116, 3) := by decide +kernel
theorem dX12_endsLow_39 : decode cX12_endsLow 39 = .ok (.iload_n 3, 1) := by decide +kernel
theorem dX12_endsLow_40 : decode cX12_endsLow 40 = .ok (.iload 5, 2) := by decide +kernel
theorem dX12_endsLow_42 : decode cX12_endsLow 42 = .ok (.iadd, 1) := by decide +kernel
theorem dX12_endsLow_43 : decode cX12_endsLow 43 = .ok (.iaload, 1) := by decide +kernel
theorem dX12_endsLow_44 : decode cX12_endsLow 44 = .ok (.invokestatic 119, 3) := by decide +kernel
theorem dX12_endsLow_47 : decode cX12_endsLow 47 = .ok (.aload_n 1, 1) := by decide +kernel
theorem dX12_endsLow_48 : decode cX12_endsLow 48 = .ok (.iload 5, 2) := by decide +kernel
theorem dX12_endsLow_50 : decode cX12_endsLow 50 = .ok (.invokevirtual 64, 3) := by decide +kernel
theorem dX12_endsLow_53 : decode cX12_endsLow 53 = .ok (.if_icmp .ne 7, 3) := by decide +kernel
theorem dX12_endsLow_60 : decode cX12_endsLow 60 = .ok (.iconst 0, 1) := by decide +kernel
theorem dX12_endsLow_61 : decode cX12_endsLow 61 = .ok (.istore 4, 2) := by decide +kernel
theorem dX12_endsLow_63 : decode cX12_endsLow 63 = .ok (.iinc 5 1, 3) := by decide +kernel
theorem dX12_endsLow_66 : decode cX12_endsLow 66 = .ok (.goto (-45), 3) := by decide +kernel
theorem dX12_endsLow_56 : decode cX12_endsLow 56 = .ok (.iconst 1, 1) := by decide +kernel
theorem dX12_endsLow_57 : decode cX12_endsLow 57 = .ok (.goto 4, 3) := by decide +kernel
theorem dX12_endsLow_0 : decode cX12_endsLow 0 = .ok (.iload_n 2, 1) := by decide +kernel
theorem dX12_endsLow_1 : decode cX12_endsLow 1 = .ok (.aload_n 1, 1) := by decide +kernel
theorem dX12_endsLow_2 : decode cX12_endsLow 2 = .ok (.invokevirtual 58, 3) := by decide +kernel
theorem dX12_endsLow_5 : decode cX12_endsLow 5 = .ok (.isub, 1) := by decide +kernel
theorem dX12_endsLow_6 : decode cX12_endsLow 6 = .ok (.istore_n 3, 1) := by decide +kernel
theorem dX12_endsLow_7 : decode cX12_endsLow 7 = .ok (.iload_n 3, 1) := by decide +kernel
theorem dX12_endsLow_8 : decode cX12_endsLow 8 = .ok (.ifCond .lt 7, 3) := by decide +kernel
theorem dX12_endsLow_15 : decode cX12_endsLow 15 = .ok (.iconst 0, 1) := by decide +kernel
theorem dX12_endsLow_16 : decode cX12_endsLow 16 = .ok (.istore 4, 2) := by decide +kernel
theorem dX12_endsLow_18 : decode cX12_endsLow 18 = .ok (.iconst 0, 1) := by decide +kernel
theorem dX12_endsLow_19 : decode cX12_endsLow 19 = .ok (.istore 5, 2) := by decide +kernel
theorem dX12_endsLow_11 : decode cX12_endsLow 11 = .ok (.iconst 1, 1) := by decide +kernel
theorem dX12_endsLow_12 : decode cX12_endsLow 12 = .ok (.goto 4, 3) := by decide +kernel
def fb_X12_endsLow_21 (K21 : List Nat → Int32 → Bool → Int32 → uS → Option Bool) (w1 : List Nat) (x3 : Int32) (b4 : Bool) (x5 : Int32) (s : uS) : Option Bool := if (nI w1.length) ≤ x5 then (some b4) else (if b4 = true then ((iget 20 s 1093 (x3 + x5)).bind fun v3 => (fn_X12_low v3 s).bind fun v5 => (stget w1 x5).bind fun v7 => if v5 = v7 then (K21 w1 x3 true (x5 + 1) s) else (K21 w1 x3 false (x5 + 1) s)) else (some b4))
set_option maxRecDepth 100000 in
set_option maxHeartbeats 4000000 in
theorem xb_X12_endsLow_21 {l : Launch} {D : va_G} {A : Nat → ClassId} {B : Nat} {Z : State → Heap → Prop} {vF : Value} (uk : uK B Z vF) {K21 : List Nat → Int32 → Bool → Int32 → uS → Option Bool} (hK21 : ∀ (w1 : List Nat) (x3 : Int32) (b4 : Bool) (x5 : Int32) {qw1 pw1 : Nat} (hw1 : uStr B Z qw1 pw1 w1) (s : uS) (r : Bool), K21 w1 x3 b4 x5 s = some r → GU l D A B Z mX12_endsLow 4 (s, some (.int (bI r))) s 21 [(0, .ref (B + 1079)), (1, .ref qw1), (3, .int x3), (4, .int (bI b4)), (5, .int x5)] []) {w1 : List Nat} {x3 : Int32} {b4 : Bool} {x5 : Int32} {s : uS} {r : Bool} {qw1 pw1 : Nat} (hw1 : uStr B Z qw1 pw1 w1) (h : fb_X12_endsLow_21 K21 w1 x3 b4 x5 s = some r) : GU l D A B Z mX12_endsLow 4 (s, some (.int (bI r))) s 21 [(0, .ref (B + 1079)), (1, .ref qw1), (3, .int x3), (4, .int (bI b4)), (5, .int x5)] [] := by
  unfold fb_X12_endsLow_21 at h
  refine uu_iload dX12_endsLow_21 (List.mem_of_getElem? (i := 4) rfl) ?_
  refine uu_aload_n dX12_endsLow_23 rfl (List.mem_of_getElem? (i := 1) rfl) ?_
  refine uu_slen uk hw1 lX12_58 (by decide) (Nat.le_of_ble_eq_true rfl) dX12_endsLow_24 ?_
  refine uu_icmp_ge (tgt := 69) dX12_endsLow_27 (by decide) (fun c1 => ?_) (fun c1 => ?_)
  · replace h := uu_pos c1 h
    refine uu_iload dX12_endsLow_69 (List.mem_of_getElem? (i := 3) rfl) ?_
    have hr := Option.some.inj h
    subst hr
    exact uu_zret (x := bI b4) rfl (bI_z _) dX12_endsLow_71
  · replace h := uu_neg c1 h
    refine uu_iload dX12_endsLow_30 (List.mem_of_getElem? (i := 3) rfl) ?_
    refine uu_ifb_eq (tgt := 69) dX12_endsLow_32 (by decide) (fun c2 => ?_) (fun c2 => ?_)
    · replace h := uu_neg c2 h
      refine uu_iload dX12_endsLow_69 (List.mem_of_getElem? (i := 3) rfl) ?_
      have hr := Option.some.inj h
      subst hr
      exact uu_zret (x := bI b4) rfl (bI_z _) dX12_endsLow_71
    · replace h := uu_pos c2 h
      refine uu_aload_n dX12_endsLow_35 rfl (List.mem_of_getElem? (i := 0) rfl) ?_
      refine uu_geta (ci := 12) (N := 153) fX12_116 (by decide) so_1079.is (by decide) (c := 1093) (by decide) dX12_endsLow_36 ?_
      refine uu_iload_n dX12_endsLow_39 rfl (List.mem_of_getElem? (i := 2) rfl) ?_
      refine uu_iload dX12_endsLow_40 (List.mem_of_getElem? (i := 4) rfl) ?_
      refine uu_iadd dX12_endsLow_42 ?_
      obtain ⟨v3, e4, h⟩ := uu_ob h
      refine uu_iald e4 dX12_endsLow_43 ?_
      obtain ⟨v5, e6, h⟩ := uu_ob h
      refine uu_cs (d1 := 0) (As := [.int v3]) (st := []) (st' := [.int v5]) (xc_X12_low uk  e6) kX12_low lX12_119 sX12_low (by decide) (Nat.le_of_ble_eq_true rfl) dX12_endsLow_44 rfl ?_
      refine uu_aload_n dX12_endsLow_47 rfl (List.mem_of_getElem? (i := 1) rfl) ?_
      refine uu_iload dX12_endsLow_48 (List.mem_of_getElem? (i := 4) rfl) ?_
      obtain ⟨v7, e8, h⟩ := uu_ob h
      refine uu_sch uk hw1 e8 lX12_64 (by decide) (Nat.le_of_ble_eq_true rfl) dX12_endsLow_50 ?_
      refine uu_icmp_ne (tgt := 60) dX12_endsLow_53 (by decide) (fun c9 => ?_) (fun c9 => ?_)
      · replace h := uu_neg c9 h
        refine uu_iconst (v := 0) dX12_endsLow_60 (by decide) ?_
        refine uu_istore dX12_endsLow_61 (by decide) rfl ?_
        refine uu_iinc (v := x5 + 1) dX12_endsLow_63 (k := 4) rfl rfl (by decide) rfl ?_
        refine uu_goto (tgt := 21) dX12_endsLow_66 (by decide) ?_
        refine uu_lv [2, 3, 4, 1, 0] (lv' := [(0, .ref (B + 1079)), (1, .ref qw1), (3, .int x3), (4, .int 0), (5, .int (x5 + 1))]) rfl ?_
        exact hK21 w1 x3 false (x5 + 1) hw1 _ _ h
      · replace h := uu_pos c9 h
        refine uu_iconst (v := 1) dX12_endsLow_56 (by decide) ?_
        refine uu_goto (tgt := 61) dX12_endsLow_57 (by decide) ?_
        refine uu_istore dX12_endsLow_61 (by decide) rfl ?_
        refine uu_iinc (v := x5 + 1) dX12_endsLow_63 (k := 4) rfl rfl (by decide) rfl ?_
        refine uu_goto (tgt := 21) dX12_endsLow_66 (by decide) ?_
        refine uu_lv [2, 3, 4, 1, 0] (lv' := [(0, .ref (B + 1079)), (1, .ref qw1), (3, .int x3), (4, .int 1), (5, .int (x5 + 1))]) rfl ?_
        exact hK21 w1 x3 true (x5 + 1) hw1 _ _ h
def fn_X12_endsLow_21  : Nat → List Nat → Int32 → Bool → Int32 → uS → Option Bool
  | 0 => fun _ _ _ _ _ => none
  | n + 1 => fb_X12_endsLow_21 (fn_X12_endsLow_21  n)
set_option maxRecDepth 100000 in
set_option maxHeartbeats 4000000 in
theorem xn_X12_endsLow_21 {l : Launch} {D : va_G} {A : Nat → ClassId} {B : Nat} {Z : State → Heap → Prop} {vF : Value} (uk : uK B Z vF)   : ∀ (n : Nat) (w1 : List Nat) (x3 : Int32) (b4 : Bool) (x5 : Int32) {qw1 pw1 : Nat} (hw1 : uStr B Z qw1 pw1 w1) (s : uS) (r : Bool), fn_X12_endsLow_21  n w1 x3 b4 x5 s = some r → GU l D A B Z mX12_endsLow 4 (s, some (.int (bI r))) s 21 [(0, .ref (B + 1079)), (1, .ref qw1), (3, .int x3), (4, .int (bI b4)), (5, .int x5)] [] := by
  intro n
  induction n with
  | zero => intro w1 x3 b4 x5 qw1 pw1 hw1 s r h
            cases h
  | succ n ih => intro w1 x3 b4 x5 qw1 pw1 hw1 s r h
                 exact xb_X12_endsLow_21 uk ih hw1 h
def fn_X12_endsLow (w1 : List Nat) (x2 : Int32) (s : uS) : Option Bool := if (x2 - (nI w1.length)) < 0 then (fn_X12_endsLow_21 uFu w1 (x2 - (nI w1.length)) false 0 s) else (fn_X12_endsLow_21 uFu w1 (x2 - (nI w1.length)) true 0 s)
set_option maxRecDepth 100000 in
set_option maxHeartbeats 4000000 in
theorem xc_X12_endsLow {l : Launch} {D : va_G} {A : Nat → ClassId} {B : Nat} {Z : State → Heap → Prop} {vF : Value} (uk : uK B Z vF) {w1 : List Nat} {x2 : Int32} {s : uS} {r : Bool} {qw1 pw1 : Nat} (hw1 : uStr B Z qw1 pw1 w1) (h : fn_X12_endsLow w1 x2 s = some r) : CU l D A B Z 4 mX12_endsLow s [.ref (B + 1079), .ref qw1, .int x2] (s, some (.int (bI r))) := by
  unfold fn_X12_endsLow at h
  refine cu_of rfl uk.1.1 (Nat.le_of_ble_eq_true rfl) ?_
  show GU _ _ _ _ _ _ _ _ _ 0 [(0, .ref (B + 1079)), (1, .ref qw1), (2, .int x2)] []
  refine uu_iload_n dX12_endsLow_0 rfl (List.mem_of_getElem? (i := 2) rfl) ?_
  refine uu_aload_n dX12_endsLow_1 rfl (List.mem_of_getElem? (i := 1) rfl) ?_
  refine uu_slen uk hw1 lX12_58 (by decide) (Nat.le_of_ble_eq_true rfl) dX12_endsLow_2 ?_
  refine uu_isub dX12_endsLow_5 ?_
  refine uu_istore_n dX12_endsLow_6 rfl (by decide) rfl ?_
  refine uu_iload_n dX12_endsLow_7 rfl (List.mem_of_getElem? (i := 0) rfl) ?_
  refine uu_if_lt (tgt := 15) dX12_endsLow_8 (by decide) (fun c1 => ?_) (fun c1 => ?_)
  · replace h := uu_pos c1 h
    refine uu_iconst (v := 0) dX12_endsLow_15 (by decide) ?_
    refine uu_istore dX12_endsLow_16 (by decide) rfl ?_
    refine uu_iconst (v := 0) dX12_endsLow_18 (by decide) ?_
    refine uu_istore dX12_endsLow_19 (by decide) rfl ?_
    refine uu_lv [3, 4, 2, 1, 0] (lv' := [(0, .ref (B + 1079)), (1, .ref qw1), (3, .int (x2 - (nI w1.length))), (4, .int 0), (5, .int 0)]) rfl ?_
    exact xn_X12_endsLow_21 uk  _ _ _ _ _ hw1 _ _ h
  · replace h := uu_neg c1 h
    refine uu_iconst (v := 1) dX12_endsLow_11 (by decide) ?_
    refine uu_goto (tgt := 16) dX12_endsLow_12 (by decide) ?_
    refine uu_istore dX12_endsLow_16 (by decide) rfl ?_
    refine uu_iconst (v := 0) dX12_endsLow_18 (by decide) ?_
    refine uu_istore dX12_endsLow_19 (by decide) rfl ?_
    refine uu_lv [3, 4, 2, 1, 0] (lv' := [(0, .ref (B + 1079)), (1, .ref qw1), (3, .int (x2 - (nI w1.length))), (4, .int 1), (5, .int 0)]) rfl ?_
    exact xn_X12_endsLow_21 uk  _ _ _ _ _ hw1 _ _ h
abbrev mX12_isNobody : hM := (yX12_isNobody, cX12_isNobody, 3, (some (.boolean)))
theorem dX12_isNobody_65 : decode cX12_isNobody 65 = .ok (.istore_n 2, 1) := by decide +kernel
theorem dX12_isNobody_66 : decode cX12_isNobody 66 = .ok (.iload_n 2, 1) := by decide +kernel
theorem dX12_isNobody_67 : decode cX12_isNobody 67 = .ok (.ifCond .ne 25, 3) := by decide +kernel
theorem dX12_isNobody_92 : decode cX12_isNobody 92 = .ok (.iconst 1, 1) := by decide +kernel
theorem dX12_isNobody_93 : decode cX12_isNobody 93 = .ok (.goto 4, 3) := by decide +kernel
theorem dX12_isNobody_97 : decode cX12_isNobody 97 = .ok (.ireturn, 1) := by decide +kernel
theorem dX12_isNobody_70 : decode cX12_isNobody 70 = .ok (.aload_n 0, 1) := by decide +kernel
theorem dX12_isNobody_71 : decode cX12_isNobody 71 = .ok (.ldc_w 828, 3) := by decide +kernel
theorem dX12_isNobody_74 : decode cX12_isNobody 74 = .ok (.iload_n 1, 1) := by decide +kernel
theorem kX12_beginsLow : h_ml mX12_beginsLow 2 := ⟨h_t10 44 rfl rfl, h_t1 16 rfl rfl, ⟨by decide, by decide, by decide +kernel⟩, by decide⟩
theorem lX12_820 : Cond.methodLink RX12 820 mX12_beginsLow.1 ∈ lw_g := h_t10 41 rfl rfl
theorem sX12_beginsLow : Cond.instanceMethod mX12_beginsLow.1 ∈ lw_g ∧ Cond.selects mX12_beginsLow.1.cls mX12_beginsLow.1 mX12_beginsLow.1 ∈ lw_g := ⟨h_t10 43 rfl rfl, h_ins 208 rfl⟩
theorem dX12_isNobody_75 : decode cX12_isNobody 75 = .ok (.invokevirtual 820, 3) := by decide +kernel
theorem dX12_isNobody_78 : decode cX12_isNobody 78 = .ok (.ifCond .ne 14, 3) := by decide +kernel
theorem dX12_isNobody_81 : decode cX12_isNobody 81 = .ok (.aload_n 0, 1) := by decide +kernel
theorem dX12_isNobody_82 : decode cX12_isNobody 82 = .ok (.ldc_w 830, 3) := by decide +kernel
theorem dX12_isNobody_85 : decode cX12_isNobody 85 = .ok (.iload_n 1, 1) := by decide +kernel
theorem kX12_endsLow : h_ml mX12_endsLow 2 := ⟨h_t10 52 rfl rfl, h_t1 16 rfl rfl, ⟨by decide, by decide, by decide +kernel⟩, by decide⟩
theorem lX12_832 : Cond.methodLink RX12 832 mX12_endsLow.1 ∈ lw_g := h_t10 49 rfl rfl
theorem sX12_endsLow : Cond.instanceMethod mX12_endsLow.1 ∈ lw_g ∧ Cond.selects mX12_endsLow.1.cls mX12_endsLow.1 mX12_endsLow.1 ∈ lw_g := ⟨h_t10 51 rfl rfl, h_ins 209 rfl⟩
theorem dX12_isNobody_86 : decode cX12_isNobody 86 = .ok (.invokevirtual 832, 3) := by decide +kernel
theorem dX12_isNobody_89 : decode cX12_isNobody 89 = .ok (.ifCond .eq 7, 3) := by decide +kernel
theorem dX12_isNobody_96 : decode cX12_isNobody 96 = .ok (.iconst 0, 1) := by decide +kernel
theorem dX12_isNobody_43 : decode cX12_isNobody 43 = .ok (.aload_n 0, 1) := by decide +kernel
theorem dX12_isNobody_44 : decode cX12_isNobody 44 = .ok (.ldc_w 826, 3) := by decide +kernel
theorem dX12_isNobody_47 : decode cX12_isNobody 47 = .ok (.iload_n 1, 1) := by decide +kernel
theorem dX12_isNobody_48 : decode cX12_isNobody 48 = .ok (.invokevirtual 820, 3) := by decide +kernel
theorem dX12_isNobody_51 : decode cX12_isNobody 51 = .ok (.ifCond .eq 13, 3) := by decide +kernel
theorem dX12_isNobody_64 : decode cX12_isNobody 64 = .ok (.iconst 0, 1) := by decide +kernel
theorem dX12_isNobody_54 : decode cX12_isNobody 54 = .ok (.iload_n 1, 1) := by decide +kernel
theorem dX12_isNobody_55 : decode cX12_isNobody 55 = .ok (.bipush 9, 2) := by decide +kernel
theorem dX12_isNobody_57 : decode cX12_isNobody 57 = .ok (.if_icmp .ne 7, 3) := by decide +kernel
theorem dX12_isNobody_60 : decode cX12_isNobody 60 = .ok (.iconst 1, 1) := by decide +kernel
theorem dX12_isNobody_61 : decode cX12_isNobody 61 = .ok (.goto 4, 3) := by decide +kernel
theorem dX12_isNobody_26 : decode cX12_isNobody 26 = .ok (.aload_n 0, 1) := by decide +kernel
theorem dX12_isNobody_27 : decode cX12_isNobody 27 = .ok (.ldc_w 824, 3) := by decide +kernel
theorem dX12_isNobody_30 : decode cX12_isNobody 30 = .ok (.iload_n 1, 1) := by decide +kernel
theorem dX12_isNobody_31 : decode cX12_isNobody 31 = .ok (.invokevirtual 820, 3) := by decide +kernel
theorem dX12_isNobody_34 : decode cX12_isNobody 34 = .ok (.ifCond .eq 9, 3) := by decide +kernel
theorem dX12_isNobody_37 : decode cX12_isNobody 37 = .ok (.iload_n 1, 1) := by decide +kernel
theorem dX12_isNobody_38 : decode cX12_isNobody 38 = .ok (.bipush 8, 2) := by decide +kernel
theorem dX12_isNobody_40 : decode cX12_isNobody 40 = .ok (.if_icmp .eq 20, 3) := by decide +kernel
theorem dX12_isNobody_0 : decode cX12_isNobody 0 = .ok (.aload_n 0, 1) := by decide +kernel
theorem dX12_isNobody_1 : decode cX12_isNobody 1 = .ok (.invokevirtual 694, 3) := by decide +kernel
theorem dX12_isNobody_4 : decode cX12_isNobody 4 = .ok (.aload_n 0, 1) := by decide +kernel
theorem dX12_isNobody_5 : decode cX12_isNobody 5 = .ok (.invokevirtual 469, 3) := by decide +kernel
theorem dX12_isNobody_8 : decode cX12_isNobody 8 = .ok (.istore_n 1, 1) := by decide +kernel
theorem dX12_isNobody_9 : decode cX12_isNobody 9 = .ok (.aload_n 0, 1) := by decide +kernel
theorem dX12_isNobody_10 : decode cX12_isNobody 10 = .ok (.ldc_w 818, 3) := by decide +kernel
theorem dX12_isNobody_13 : decode cX12_isNobody 13 = .ok (.iload_n 1, 1) := by decide +kernel
theorem dX12_isNobody_14 : decode cX12_isNobody 14 = .ok (.invokevirtual 820, 3) := by decide +kernel
theorem dX12_isNobody_17 : decode cX12_isNobody 17 = .ok (.ifCond .eq 9, 3) := by decide +kernel
theorem dX12_isNobody_20 : decode cX12_isNobody 20 = .ok (.iload_n 1, 1) := by decide +kernel
theorem dX12_isNobody_21 : decode cX12_isNobody 21 = .ok (.bipush 13, 2) := by decide +kernel
theorem dX12_isNobody_23 : decode cX12_isNobody 23 = .ok (.if_icmp .eq 37, 3) := by decide +kernel
def fb_X12_isNobody_65  (x1 : Int32) (bs0 : Bool) (s : uS) : Option (uS × Bool) := if bs0 = true then (some (s, true)) else ((fn_X12_beginsLow kW_148 x1 s).bind fun v3 => if v3 = true then (some (s, true)) else ((fn_X12_endsLow kW_149 x1 s).bind fun v7 => if v7 = true then (some (s, true)) else (some (s, false))))
set_option maxRecDepth 100000 in
set_option maxHeartbeats 4000000 in
theorem xb_X12_isNobody_65 {l : Launch} {D : va_G} {A : Nat → ClassId} {B : Nat} {Z : State → Heap → Prop} {vF : Value} (uk : uK B Z vF)   {x1 : Int32} {bs0 : Bool} {s : uS} {r : (uS × Bool)}  (h : fb_X12_isNobody_65  x1 bs0 s = some r) : GU l D A B Z mX12_isNobody 5 (r.1, some (.int (bI r.2))) s 65 [(0, .ref (B + 1079)), (1, .int x1)] [.int (bI bs0)] := by
  unfold fb_X12_isNobody_65 at h
  refine uu_istore_n dX12_isNobody_65 rfl (by decide) rfl ?_
  refine uu_iload_n dX12_isNobody_66 rfl (List.mem_of_getElem? (i := 0) rfl) ?_
  refine uu_ifb_ne (tgt := 92) dX12_isNobody_67 (by decide) (fun c1 => ?_) (fun c1 => ?_)
  · replace h := uu_pos c1 h
    refine uu_iconst (v := 1) dX12_isNobody_92 (by decide) ?_
    refine uu_goto (tgt := 97) dX12_isNobody_93 (by decide) ?_
    have hr := Option.some.inj h
    subst hr
    exact uu_zret (x := bI true) rfl (bI_z _) dX12_isNobody_97
  · replace h := uu_neg c1 h
    refine uu_aload_n dX12_isNobody_70 rfl (List.mem_of_getElem? (i := 1) rfl) ?_
    obtain ⟨cq2, cp2, cv2, cw2⟩ := uk.2.1 148 _ rfl
    refine uu_ldcwS cv2 dX12_isNobody_71 ?_
    refine uu_iload_n dX12_isNobody_74 rfl (List.mem_of_getElem? (i := 2) rfl) ?_
    obtain ⟨v3, e4, h⟩ := uu_ob h
    refine uu_cv (d1 := 4) (k := 1079) (ci := 12) (T := TX12) (N := 153) (As := [.ref cq2, .int x1]) (st := []) (st' := [.int (bI v3)]) (xc_X12_beginsLow uk cw2 e4) so_1079.is (by decide) rfl kX12_beginsLow lX12_820 sX12_beginsLow (by decide) (Nat.le_of_ble_eq_true rfl) dX12_isNobody_75 rfl ?_
    refine uu_ifb_ne (tgt := 92) dX12_isNobody_78 (by decide) (fun c5 => ?_) (fun c5 => ?_)
    · replace h := uu_pos c5 h
      refine uu_iconst (v := 1) dX12_isNobody_92 (by decide) ?_
      refine uu_goto (tgt := 97) dX12_isNobody_93 (by decide) ?_
      have hr := Option.some.inj h
      subst hr
      exact uu_zret (x := bI true) rfl (bI_z _) dX12_isNobody_97
    · replace h := uu_neg c5 h
      refine uu_aload_n dX12_isNobody_81 rfl (List.mem_of_getElem? (i := 1) rfl) ?_
      obtain ⟨cq6, cp6, cv6, cw6⟩ := uk.2.1 149 _ rfl
      refine uu_ldcwS cv6 dX12_isNobody_82 ?_
      refine uu_iload_n dX12_isNobody_85 rfl (List.mem_of_getElem? (i := 2) rfl) ?_
      obtain ⟨v7, e8, h⟩ := uu_ob h
      refine uu_cv (d1 := 4) (k := 1079) (ci := 12) (T := TX12) (N := 153) (As := [.ref cq6, .int x1]) (st := []) (st' := [.int (bI v7)]) (xc_X12_endsLow uk cw6 e8) so_1079.is (by decide) rfl kX12_endsLow lX12_832 sX12_endsLow (by decide) (Nat.le_of_ble_eq_true rfl) dX12_isNobody_86 rfl ?_
      refine uu_ifb_eq (tgt := 96) dX12_isNobody_89 (by decide) (fun c9 => ?_) (fun c9 => ?_)
      · replace h := uu_neg c9 h
        refine uu_iconst (v := 0) dX12_isNobody_96 (by decide) ?_
        have hr := Option.some.inj h
        subst hr
        exact uu_zret (x := bI false) rfl (bI_z _) dX12_isNobody_97
      · replace h := uu_pos c9 h
        refine uu_iconst (v := 1) dX12_isNobody_92 (by decide) ?_
        refine uu_goto (tgt := 97) dX12_isNobody_93 (by decide) ?_
        have hr := Option.some.inj h
        subst hr
        exact uu_zret (x := bI true) rfl (bI_z _) dX12_isNobody_97
def fb_X12_isNobody_43  (x1 : Int32) (s : uS) : Option (uS × Bool) := (fn_X12_beginsLow kW_147 x1 s).bind fun v2 => if v2 = true then (if x1 = 9 then (fb_X12_isNobody_65 x1 true s) else (fb_X12_isNobody_65 x1 false s)) else (fb_X12_isNobody_65 x1 false s)
set_option maxRecDepth 100000 in
set_option maxHeartbeats 4000000 in
theorem xb_X12_isNobody_43 {l : Launch} {D : va_G} {A : Nat → ClassId} {B : Nat} {Z : State → Heap → Prop} {vF : Value} (uk : uK B Z vF)   {x1 : Int32} {s : uS} {r : (uS × Bool)}  (h : fb_X12_isNobody_43  x1 s = some r) : GU l D A B Z mX12_isNobody 5 (r.1, some (.int (bI r.2))) s 43 [(0, .ref (B + 1079)), (1, .int x1)] [] := by
  unfold fb_X12_isNobody_43 at h
  refine uu_aload_n dX12_isNobody_43 rfl (List.mem_of_getElem? (i := 0) rfl) ?_
  obtain ⟨cq1, cp1, cv1, cw1⟩ := uk.2.1 147 _ rfl
  refine uu_ldcwS cv1 dX12_isNobody_44 ?_
  refine uu_iload_n dX12_isNobody_47 rfl (List.mem_of_getElem? (i := 1) rfl) ?_
  obtain ⟨v2, e3, h⟩ := uu_ob h
  refine uu_cv (d1 := 4) (k := 1079) (ci := 12) (T := TX12) (N := 153) (As := [.ref cq1, .int x1]) (st := []) (st' := [.int (bI v2)]) (xc_X12_beginsLow uk cw1 e3) so_1079.is (by decide) rfl kX12_beginsLow lX12_820 sX12_beginsLow (by decide) (Nat.le_of_ble_eq_true rfl) dX12_isNobody_48 rfl ?_
  refine uu_ifb_eq (tgt := 64) dX12_isNobody_51 (by decide) (fun c4 => ?_) (fun c4 => ?_)
  · replace h := uu_neg c4 h
    refine uu_iconst (v := 0) dX12_isNobody_64 (by decide) ?_
    exact xb_X12_isNobody_65 uk  h
  · replace h := uu_pos c4 h
    refine uu_iload_n dX12_isNobody_54 rfl (List.mem_of_getElem? (i := 1) rfl) ?_
    refine uu_bipush (v := 9) dX12_isNobody_55 (by decide) ?_
    refine uu_icmp_ne (tgt := 64) dX12_isNobody_57 (by decide) (fun c5 => ?_) (fun c5 => ?_)
    · replace h := uu_neg c5 h
      refine uu_iconst (v := 0) dX12_isNobody_64 (by decide) ?_
      exact xb_X12_isNobody_65 uk  h
    · replace h := uu_pos c5 h
      refine uu_iconst (v := 1) dX12_isNobody_60 (by decide) ?_
      refine uu_goto (tgt := 65) dX12_isNobody_61 (by decide) ?_
      exact xb_X12_isNobody_65 uk  h
def fb_X12_isNobody_26  (x1 : Int32) (s : uS) : Option (uS × Bool) := (fn_X12_beginsLow kW_146 x1 s).bind fun v2 => if v2 = true then (if x1 = 8 then (fb_X12_isNobody_65 x1 true s) else (fb_X12_isNobody_43 x1 s)) else (fb_X12_isNobody_43 x1 s)
set_option maxRecDepth 100000 in
set_option maxHeartbeats 4000000 in
theorem xb_X12_isNobody_26 {l : Launch} {D : va_G} {A : Nat → ClassId} {B : Nat} {Z : State → Heap → Prop} {vF : Value} (uk : uK B Z vF)   {x1 : Int32} {s : uS} {r : (uS × Bool)}  (h : fb_X12_isNobody_26  x1 s = some r) : GU l D A B Z mX12_isNobody 5 (r.1, some (.int (bI r.2))) s 26 [(0, .ref (B + 1079)), (1, .int x1)] [] := by
  unfold fb_X12_isNobody_26 at h
  refine uu_aload_n dX12_isNobody_26 rfl (List.mem_of_getElem? (i := 0) rfl) ?_
  obtain ⟨cq1, cp1, cv1, cw1⟩ := uk.2.1 146 _ rfl
  refine uu_ldcwS cv1 dX12_isNobody_27 ?_
  refine uu_iload_n dX12_isNobody_30 rfl (List.mem_of_getElem? (i := 1) rfl) ?_
  obtain ⟨v2, e3, h⟩ := uu_ob h
  refine uu_cv (d1 := 4) (k := 1079) (ci := 12) (T := TX12) (N := 153) (As := [.ref cq1, .int x1]) (st := []) (st' := [.int (bI v2)]) (xc_X12_beginsLow uk cw1 e3) so_1079.is (by decide) rfl kX12_beginsLow lX12_820 sX12_beginsLow (by decide) (Nat.le_of_ble_eq_true rfl) dX12_isNobody_31 rfl ?_
  refine uu_ifb_eq (tgt := 43) dX12_isNobody_34 (by decide) (fun c4 => ?_) (fun c4 => ?_)
  · replace h := uu_neg c4 h
    exact xb_X12_isNobody_43 uk  h
  · replace h := uu_pos c4 h
    refine uu_iload_n dX12_isNobody_37 rfl (List.mem_of_getElem? (i := 1) rfl) ?_
    refine uu_bipush (v := 8) dX12_isNobody_38 (by decide) ?_
    refine uu_icmp_eq (tgt := 60) dX12_isNobody_40 (by decide) (fun c5 => ?_) (fun c5 => ?_)
    · replace h := uu_pos c5 h
      refine uu_iconst (v := 1) dX12_isNobody_60 (by decide) ?_
      refine uu_goto (tgt := 65) dX12_isNobody_61 (by decide) ?_
      exact xb_X12_isNobody_65 uk  h
    · replace h := uu_neg c5 h
      exact xb_X12_isNobody_43 uk  h
def fn_X12_isNobody  (s : uS) : Option (uS × Bool) := (fn_X12_oneFrom s).bind fun s1 => (fn_X12_atOf s1).bind fun v3 => (fn_X12_beginsLow kW_145 v3 s1).bind fun v6 => if v6 = true then (if v3 = 13 then (fb_X12_isNobody_65 v3 true s1) else (fb_X12_isNobody_26 v3 s1)) else (fb_X12_isNobody_26 v3 s1)
set_option maxRecDepth 100000 in
set_option maxHeartbeats 4000000 in
theorem xc_X12_isNobody {l : Launch} {D : va_G} {A : Nat → ClassId} {B : Nat} {Z : State → Heap → Prop} {vF : Value} (uk : uK B Z vF)  {s : uS} {r : (uS × Bool)}  (h : fn_X12_isNobody  s = some r) : CU l D A B Z 5 mX12_isNobody s [.ref (B + 1079)] (r.1, some (.int (bI r.2))) := by
  unfold fn_X12_isNobody at h
  refine cu_of rfl uk.1.1 (Nat.le_of_ble_eq_true rfl) ?_
  show GU _ _ _ _ _ _ _ _ _ 0 [(0, .ref (B + 1079))] []
  refine uu_aload_n dX12_isNobody_0 rfl (List.mem_of_getElem? (i := 0) rfl) ?_
  obtain ⟨s1, e2, h⟩ := uu_ob h
  refine uu_cv (d1 := 0) (k := 1079) (ci := 12) (T := TX12) (N := 153) (As := []) (st := []) (st' := []) (xc_X12_oneFrom uk  e2) so_1079.is (by decide) rfl kX12_oneFrom lX12_694 sX12_oneFrom (by decide) (Nat.le_of_ble_eq_true rfl) dX12_isNobody_1 rfl ?_
  refine uu_aload_n dX12_isNobody_4 rfl (List.mem_of_getElem? (i := 0) rfl) ?_
  obtain ⟨v3, e4, h⟩ := uu_ob h
  refine uu_cv (d1 := 3) (k := 1079) (ci := 12) (T := TX12) (N := 153) (As := []) (st := []) (st' := [.int v3]) (xc_X12_atOf uk  e4) so_1079.is (by decide) rfl kX12_atOf lX12_469 sX12_atOf (by decide) (Nat.le_of_ble_eq_true rfl) dX12_isNobody_5 rfl ?_
  refine uu_istore_n dX12_isNobody_8 rfl (by decide) rfl ?_
  refine uu_aload_n dX12_isNobody_9 rfl (List.mem_of_getElem? (i := 1) rfl) ?_
  obtain ⟨cq5, cp5, cv5, cw5⟩ := uk.2.1 145 _ rfl
  refine uu_ldcwS cv5 dX12_isNobody_10 ?_
  refine uu_iload_n dX12_isNobody_13 rfl (List.mem_of_getElem? (i := 0) rfl) ?_
  obtain ⟨v6, e7, h⟩ := uu_ob h
  refine uu_cv (d1 := 4) (k := 1079) (ci := 12) (T := TX12) (N := 153) (As := [.ref cq5, .int v3]) (st := []) (st' := [.int (bI v6)]) (xc_X12_beginsLow uk cw5 e7) so_1079.is (by decide) rfl kX12_beginsLow lX12_820 sX12_beginsLow (by decide) (Nat.le_of_ble_eq_true rfl) dX12_isNobody_14 rfl ?_
  refine uu_ifb_eq (tgt := 26) dX12_isNobody_17 (by decide) (fun c8 => ?_) (fun c8 => ?_)
  · replace h := uu_neg c8 h
    refine uu_lv [1, 0] (lv' := [(0, .ref (B + 1079)), (1, .int v3)]) rfl ?_
    exact xb_X12_isNobody_26 uk  h
  · replace h := uu_pos c8 h
    refine uu_iload_n dX12_isNobody_20 rfl (List.mem_of_getElem? (i := 0) rfl) ?_
    refine uu_bipush (v := 13) dX12_isNobody_21 (by decide) ?_
    refine uu_icmp_eq (tgt := 60) dX12_isNobody_23 (by decide) (fun c9 => ?_) (fun c9 => ?_)
    · replace h := uu_pos c9 h
      refine uu_iconst (v := 1) dX12_isNobody_60 (by decide) ?_
      refine uu_goto (tgt := 65) dX12_isNobody_61 (by decide) ?_
      refine uu_lv [1, 0] (lv' := [(0, .ref (B + 1079)), (1, .int v3)]) rfl ?_
      exact xb_X12_isNobody_65 uk  h
    · replace h := uu_neg c9 h
      refine uu_lv [1, 0] (lv' := [(0, .ref (B + 1079)), (1, .int v3)]) rfl ?_
      exact xb_X12_isNobody_26 uk  h
abbrev mX12_isMine : hM := (yX12_isMine, cX12_isMine, 6, (some (.boolean)))
theorem dX12_isMine_95 : decode cX12_isMine 95 = .ok (.iload 5, 2) := by decide +kernel
theorem dX12_isMine_97 : decode cX12_isMine 97 = .ok (.aload_n 0, 1) := by decide +kernel
theorem dX12_isMine_98 : decode cX12_isMine 98 = .ok (.getfield 113, 3) := by decide +kernel
theorem dX12_isMine_101 : decode cX12_isMine 101 = .ok (.if_icmp .ge 31, 3) := by decide +kernel
theorem dX12_isMine_132 : decode cX12_isMine 132 = .ok (.aload_n 0, 1) := by decide +kernel
theorem dX12_isMine_133 : decode cX12_isMine 133 = .ok (.invokevirtual 129, 3) := by decide +kernel
theorem dX12_isMine_136 : decode cX12_isMine 136 = .ok (.istore_n 1, 1) := by decide +kernel
theorem dX12_isMine_137 : decode cX12_isMine 137 = .ok (.iinc 3 1, 3) := by decide +kernel
theorem dX12_isMine_140 : decode cX12_isMine 140 = .ok (.goto (-92), 3) := by decide +kernel
theorem dX12_isMine_104 : decode cX12_isMine 104 = .ok (.aload_n 0, 1) := by decide +kernel
theorem dX12_isMine_105 : decode cX12_isMine 105 = .ok (.getfield 122, 3) := by decide +kernel
theorem dX12_isMine_108 : decode cX12_isMine 108 = .ok (.iload 5, 2) := by decide +kernel
theorem dX12_isMine_110 : decode cX12_isMine 110 = .ok (.aload_n 0, 1) := by decide +kernel
theorem dX12_isMine_111 : decode cX12_isMine 111 = .ok (.getfield 260, 3) := by decide +kernel
theorem dX12_isMine_114 : decode cX12_isMine 114 = .ok (.aload_n 0, 1) := by decide +kernel
theorem dX12_isMine_115 : decode cX12_isMine 115 = .ok (.getfield 343, 3) := by decide +kernel
theorem dX12_isMine_118 : decode cX12_isMine 118 = .ok (.iload 4, 2) := by decide +kernel
theorem dX12_isMine_120 : decode cX12_isMine 120 = .ok (.iaload, 1) := by decide +kernel
theorem dX12_isMine_121 : decode cX12_isMine 121 = .ok (.iload 5, 2) := by decide +kernel
theorem dX12_isMine_123 : decode cX12_isMine 123 = .ok (.iadd, 1) := by decide +kernel
theorem dX12_isMine_124 : decode cX12_isMine 124 = .ok (.iaload, 1) := by decide +kernel
theorem dX12_isMine_125 : decode cX12_isMine 125 = .ok (.iastore, 1) := by decide +kernel
theorem dX12_isMine_126 : decode cX12_isMine 126 = .ok (.iinc 5 1, 3) := by decide +kernel
theorem dX12_isMine_129 : decode cX12_isMine 129 = .ok (.goto (-34), 3) := by decide +kernel
theorem dX12_isMine_48 : decode cX12_isMine 48 = .ok (.aload_n 0, 1) := by decide +kernel
theorem dX12_isMine_49 : decode cX12_isMine 49 = .ok (.getfield 454, 3) := by decide +kernel
theorem dX12_isMine_52 : decode cX12_isMine 52 = .ok (.iload_n 2, 1) := by decide +kernel
theorem dX12_isMine_53 : decode cX12_isMine 53 = .ok (.iaload, 1) := by decide +kernel
theorem dX12_isMine_54 : decode cX12_isMine 54 = .ok (.ifCond .lt 89, 3) := by decide +kernel
theorem dX12_isMine_143 : decode cX12_isMine 143 = .ok (.iload_n 1, 1) := by decide +kernel
theorem dX12_isMine_144 : decode cX12_isMine 144 = .ok (.ireturn, 1) := by decide +kernel
theorem dX12_isMine_57 : decode cX12_isMine 57 = .ok (.iload_n 3, 1) := by decide +kernel
theorem dX12_isMine_58 : decode cX12_isMine 58 = .ok (.aload_n 0, 1) := by decide +kernel
theorem dX12_isMine_59 : decode cX12_isMine 59 = .ok (.getfield 300, 3) := by decide +kernel
theorem dX12_isMine_62 : decode cX12_isMine 62 = .ok (.iload_n 2, 1) := by decide +kernel
theorem dX12_isMine_63 : decode cX12_isMine 63 = .ok (.iaload, 1) := by decide +kernel
theorem dX12_isMine_64 : decode cX12_isMine 64 = .ok (.if_icmp .ge 79, 3) := by decide +kernel
theorem dX12_isMine_67 : decode cX12_isMine 67 = .ok (.iload_n 1, 1) := by decide +kernel
theorem dX12_isMine_68 : decode cX12_isMine 68 = .ok (.ifCond .ne 75, 3) := by decide +kernel
theorem dX12_isMine_71 : decode cX12_isMine 71 = .ok (.aload_n 0, 1) := by decide +kernel
theorem dX12_isMine_72 : decode cX12_isMine 72 = .ok (.getfield 454, 3) := by decide +kernel
theorem dX12_isMine_75 : decode cX12_isMine 75 = .ok (.iload_n 2, 1) := by decide +kernel
theorem dX12_isMine_76 : decode cX12_isMine 76 = .ok (.iaload, 1) := by decide +kernel
theorem dX12_isMine_77 : decode cX12_isMine 77 = .ok (.iload_n 3, 1) := by decide +kernel
theorem dX12_isMine_78 : decode cX12_isMine 78 = .ok (.iadd, 1) := by decide +kernel
theorem dX12_isMine_79 : decode cX12_isMine 79 = .ok (.istore 4, 2) := by decide +kernel
theorem dX12_isMine_81 : decode cX12_isMine 81 = .ok (.aload_n 0, 1) := by decide +kernel
theorem dX12_isMine_82 : decode cX12_isMine 82 = .ok (.aload_n 0, 1) := by decide +kernel
theorem dX12_isMine_83 : decode cX12_isMine 83 = .ok (.getfield 346, 3) := by decide +kernel
theorem dX12_isMine_86 : decode cX12_isMine 86 = .ok (.iload 4, 2) := by decide +kernel
theorem dX12_isMine_88 : decode cX12_isMine 88 = .ok (.iaload, 1) := by decide +kernel
theorem dX12_isMine_89 : decode cX12_isMine 89 = .ok (.putfield 113, 3) := by decide +kernel
theorem dX12_isMine_92 : decode cX12_isMine 92 = .ok (.iconst 0, 1) := by decide +kernel
theorem dX12_isMine_93 : decode cX12_isMine 93 = .ok (.istore 5, 2) := by decide +kernel
theorem dX12_isMine_10 : decode cX12_isMine 10 = .ok (.iload_n 1, 1) := by decide +kernel
theorem dX12_isMine_11 : decode cX12_isMine 11 = .ok (.aload_n 0, 1) := by decide +kernel
theorem dX12_isMine_12 : decode cX12_isMine 12 = .ok (.getfield 684, 3) := by decide +kernel
theorem dX12_isMine_15 : decode cX12_isMine 15 = .ok (.if_icmp .ge 21, 3) := by decide +kernel
theorem dX12_isMine_36 : decode cX12_isMine 36 = .ok (.aload_n 0, 1) := by decide +kernel
theorem dX12_isMine_37 : decode cX12_isMine 37 = .ok (.invokevirtual 129, 3) := by decide +kernel
theorem dX12_isMine_40 : decode cX12_isMine 40 = .ok (.istore_n 1, 1) := by decide +kernel
theorem dX12_isMine_41 : decode cX12_isMine 41 = .ok (.aload_n 0, 1) := by decide +kernel
theorem fX12_761 : h_fl RX12 761 12 105 RX12 TX12 153 := ⟨rfl, by decide, inX12, h_t12 66 rfl rfl⟩
theorem dX12_isMine_42 : decode cX12_isMine 42 = .ok (.getfield 761, 3) := by decide +kernel
theorem dX12_isMine_45 : decode cX12_isMine 45 = .ok (.istore_n 2, 1) := by decide +kernel
theorem dX12_isMine_46 : decode cX12_isMine 46 = .ok (.iconst 0, 1) := by decide +kernel
theorem dX12_isMine_47 : decode cX12_isMine 47 = .ok (.istore_n 3, 1) := by decide +kernel
theorem dX12_isMine_18 : decode cX12_isMine 18 = .ok (.aload_n 0, 1) := by decide +kernel
theorem dX12_isMine_19 : decode cX12_isMine 19 = .ok (.getfield 122, 3) := by decide +kernel
theorem dX12_isMine_22 : decode cX12_isMine 22 = .ok (.iload_n 1, 1) := by decide +kernel
theorem dX12_isMine_23 : decode cX12_isMine 23 = .ok (.aload_n 0, 1) := by decide +kernel
theorem dX12_isMine_24 : decode cX12_isMine 24 = .ok (.getfield 687, 3) := by decide +kernel
theorem dX12_isMine_27 : decode cX12_isMine 27 = .ok (.iload_n 1, 1) := by decide +kernel
theorem dX12_isMine_28 : decode cX12_isMine 28 = .ok (.iaload, 1) := by decide +kernel
theorem dX12_isMine_29 : decode cX12_isMine 29 = .ok (.iastore, 1) := by decide +kernel
theorem dX12_isMine_30 : decode cX12_isMine 30 = .ok (.iinc 1 1, 3) := by decide +kernel
theorem dX12_isMine_33 : decode cX12_isMine 33 = .ok (.goto (-23), 3) := by decide +kernel
theorem dX12_isMine_0 : decode cX12_isMine 0 = .ok (.aload_n 0, 1) := by decide +kernel
theorem dX12_isMine_1 : decode cX12_isMine 1 = .ok (.aload_n 0, 1) := by decide +kernel
theorem dX12_isMine_2 : decode cX12_isMine 2 = .ok (.getfield 684, 3) := by decide +kernel
theorem dX12_isMine_5 : decode cX12_isMine 5 = .ok (.putfield 113, 3) := by decide +kernel
theorem dX12_isMine_8 : decode cX12_isMine 8 = .ok (.iconst 0, 1) := by decide +kernel
theorem dX12_isMine_9 : decode cX12_isMine 9 = .ok (.istore_n 1, 1) := by decide +kernel
def fb_X12_isMine_95 (K48 : Bool → Int32 → Int32 → uS → Option (uS × Bool)) (K95 : Int32 → Int32 → Int32 → Int32 → uS → Option (uS × Bool)) (x2 : Int32) (x3 : Int32) (x4 : Int32) (x5 : Int32) (s : uS) : Option (uS × Bool) := if (s.I 1079 23) ≤ x5 then ((fn_X12_likeLow s).bind fun v2 => K48 v2 x2 (x3 + 1) s) else ((iget 20 s 1116 x4).bind fun v4 => (iget 20 s 1097 (v4 + x5)).bind fun v6 => (iput 20 s 1094 x5 v6).bind fun s8 => K95 x2 x3 x4 (x5 + 1) s8)
set_option maxRecDepth 100000 in
set_option maxHeartbeats 4000000 in
theorem xb_X12_isMine_95 {l : Launch} {D : va_G} {A : Nat → ClassId} {B : Nat} {Z : State → Heap → Prop} {vF : Value} (uk : uK B Z vF) {K48 : Bool → Int32 → Int32 → uS → Option (uS × Bool)} {K95 : Int32 → Int32 → Int32 → Int32 → uS → Option (uS × Bool)} (hK48 : ∀ (b1 : Bool) (x2 : Int32) (x3 : Int32)  (s : uS) (r : (uS × Bool)), K48 b1 x2 x3 s = some r → GU l D A B Z mX12_isMine 2 (r.1, some (.int (bI r.2))) s 48 [(0, .ref (B + 1079)), (1, .int (bI b1)), (2, .int x2), (3, .int x3)] []) (hK95 : ∀ (x2 : Int32) (x3 : Int32) (x4 : Int32) (x5 : Int32)  (s : uS) (r : (uS × Bool)), K95 x2 x3 x4 x5 s = some r → GU l D A B Z mX12_isMine 2 (r.1, some (.int (bI r.2))) s 95 [(0, .ref (B + 1079)), (2, .int x2), (3, .int x3), (4, .int x4), (5, .int x5)] []) {x2 : Int32} {x3 : Int32} {x4 : Int32} {x5 : Int32} {s : uS} {r : (uS × Bool)}  (h : fb_X12_isMine_95 K48 K95 x2 x3 x4 x5 s = some r) : GU l D A B Z mX12_isMine 2 (r.1, some (.int (bI r.2))) s 95 [(0, .ref (B + 1079)), (2, .int x2), (3, .int x3), (4, .int x4), (5, .int x5)] [] := by
  unfold fb_X12_isMine_95 at h
  refine uu_iload dX12_isMine_95 (List.mem_of_getElem? (i := 4) rfl) ?_
  refine uu_aload_n dX12_isMine_97 rfl (List.mem_of_getElem? (i := 0) rfl) ?_
  refine uu_geti (ci := 12) (N := 153) fX12_113 (by decide) so_1079.is (by decide) (by decide) dX12_isMine_98 ?_
  refine uu_icmp_ge (tgt := 132) dX12_isMine_101 (by decide) (fun c1 => ?_) (fun c1 => ?_)
  · replace h := uu_pos c1 h
    refine uu_aload_n dX12_isMine_132 rfl (List.mem_of_getElem? (i := 0) rfl) ?_
    obtain ⟨v2, e3, h⟩ := uu_ob h
    refine uu_cv (d1 := 1) (k := 1079) (ci := 12) (T := TX12) (N := 153) (As := []) (st := []) (st' := [.int (bI v2)]) (xc_X12_likeLow uk  e3) so_1079.is (by decide) rfl kX12_likeLow lX12_129 sX12_likeLow (by decide) (Nat.le_of_ble_eq_true rfl) dX12_isMine_133 rfl ?_
    refine uu_istore_n dX12_isMine_136 rfl (by decide) rfl ?_
    refine uu_iinc (v := x3 + 1) dX12_isMine_137 (k := 3) rfl rfl (by decide) rfl ?_
    refine uu_goto (tgt := 48) dX12_isMine_140 (by decide) ?_
    refine uu_lv [2, 1, 3, 0] (lv' := [(0, .ref (B + 1079)), (1, .int (bI v2)), (2, .int x2), (3, .int (x3 + 1))]) rfl ?_
    exact hK48 v2 x2 (x3 + 1) _ _ h
  · replace h := uu_neg c1 h
    refine uu_aload_n dX12_isMine_104 rfl (List.mem_of_getElem? (i := 0) rfl) ?_
    refine uu_geta (ci := 12) (N := 153) fX12_122 (by decide) so_1079.is (by decide) (c := 1094) (by decide) dX12_isMine_105 ?_
    refine uu_iload dX12_isMine_108 (List.mem_of_getElem? (i := 4) rfl) ?_
    refine uu_aload_n dX12_isMine_110 rfl (List.mem_of_getElem? (i := 0) rfl) ?_
    refine uu_geta (ci := 12) (N := 153) fX12_260 (by decide) so_1079.is (by decide) (c := 1097) (by decide) dX12_isMine_111 ?_
    refine uu_aload_n dX12_isMine_114 rfl (List.mem_of_getElem? (i := 0) rfl) ?_
    refine uu_geta (ci := 12) (N := 153) fX12_343 (by decide) so_1079.is (by decide) (c := 1116) (by decide) dX12_isMine_115 ?_
    refine uu_iload dX12_isMine_118 (List.mem_of_getElem? (i := 3) rfl) ?_
    obtain ⟨v4, e5, h⟩ := uu_ob h
    refine uu_iald e5 dX12_isMine_120 ?_
    refine uu_iload dX12_isMine_121 (List.mem_of_getElem? (i := 4) rfl) ?_
    refine uu_iadd dX12_isMine_123 ?_
    obtain ⟨v6, e7, h⟩ := uu_ob h
    refine uu_iald e7 dX12_isMine_124 ?_
    obtain ⟨s8, e9, h⟩ := uu_ob h
    refine uu_iast e9 dX12_isMine_125 ?_
    refine uu_iinc (v := x5 + 1) dX12_isMine_126 (k := 4) rfl rfl (by decide) rfl ?_
    refine uu_goto (tgt := 95) dX12_isMine_129 (by decide) ?_
    refine uu_lv [1, 2, 3, 4, 0] (lv' := [(0, .ref (B + 1079)), (2, .int x2), (3, .int x3), (4, .int x4), (5, .int (x5 + 1))]) rfl ?_
    exact hK95 x2 x3 x4 (x5 + 1) _ _ h
def fn_X12_isMine_95 (K48 : Bool → Int32 → Int32 → uS → Option (uS × Bool)) : Nat → Int32 → Int32 → Int32 → Int32 → uS → Option (uS × Bool)
  | 0 => fun _ _ _ _ _ => none
  | n + 1 => fb_X12_isMine_95 K48 (fn_X12_isMine_95 K48 n)
set_option maxRecDepth 100000 in
set_option maxHeartbeats 4000000 in
theorem xn_X12_isMine_95 {l : Launch} {D : va_G} {A : Nat → ClassId} {B : Nat} {Z : State → Heap → Prop} {vF : Value} (uk : uK B Z vF) {K48 : Bool → Int32 → Int32 → uS → Option (uS × Bool)} (hK48 : ∀ (b1 : Bool) (x2 : Int32) (x3 : Int32)  (s : uS) (r : (uS × Bool)), K48 b1 x2 x3 s = some r → GU l D A B Z mX12_isMine 2 (r.1, some (.int (bI r.2))) s 48 [(0, .ref (B + 1079)), (1, .int (bI b1)), (2, .int x2), (3, .int x3)] []) : ∀ (n : Nat) (x2 : Int32) (x3 : Int32) (x4 : Int32) (x5 : Int32)  (s : uS) (r : (uS × Bool)), fn_X12_isMine_95 K48 n x2 x3 x4 x5 s = some r → GU l D A B Z mX12_isMine 2 (r.1, some (.int (bI r.2))) s 95 [(0, .ref (B + 1079)), (2, .int x2), (3, .int x3), (4, .int x4), (5, .int x5)] [] := by
  intro n
  induction n with
  | zero => intro x2 x3 x4 x5 s r h
            cases h
  | succ n ih => intro x2 x3 x4 x5 s r h
                 exact xb_X12_isMine_95 uk hK48 ih  h
def fb_X12_isMine_48 (K48 : Bool → Int32 → Int32 → uS → Option (uS × Bool)) (b1 : Bool) (x2 : Int32) (x3 : Int32) (s : uS) : Option (uS × Bool) := (iget 20 s 1104 x2).bind fun v1 => if v1 < 0 then (some (s, b1)) else ((iget 20 s 1105 x2).bind fun v4 => if v4 ≤ x3 then (some (s, b1)) else (if b1 = true then (some (s, b1)) else ((iget 20 s 1104 x2).bind fun v8 => (iget 20 s 1117 (v8 + x3)).bind fun v10 => fn_X12_isMine_95 K48 uFu x2 x3 (v8 + x3) 0 (wI s 1079 23 v10))))
set_option maxRecDepth 100000 in
set_option maxHeartbeats 4000000 in
theorem xb_X12_isMine_48 {l : Launch} {D : va_G} {A : Nat → ClassId} {B : Nat} {Z : State → Heap → Prop} {vF : Value} (uk : uK B Z vF) {K48 : Bool → Int32 → Int32 → uS → Option (uS × Bool)} (hK48 : ∀ (b1 : Bool) (x2 : Int32) (x3 : Int32)  (s : uS) (r : (uS × Bool)), K48 b1 x2 x3 s = some r → GU l D A B Z mX12_isMine 2 (r.1, some (.int (bI r.2))) s 48 [(0, .ref (B + 1079)), (1, .int (bI b1)), (2, .int x2), (3, .int x3)] []) {b1 : Bool} {x2 : Int32} {x3 : Int32} {s : uS} {r : (uS × Bool)}  (h : fb_X12_isMine_48 K48 b1 x2 x3 s = some r) : GU l D A B Z mX12_isMine 2 (r.1, some (.int (bI r.2))) s 48 [(0, .ref (B + 1079)), (1, .int (bI b1)), (2, .int x2), (3, .int x3)] [] := by
  unfold fb_X12_isMine_48 at h
  refine uu_aload_n dX12_isMine_48 rfl (List.mem_of_getElem? (i := 0) rfl) ?_
  refine uu_geta (ci := 12) (N := 153) fX12_454 (by decide) so_1079.is (by decide) (c := 1104) (by decide) dX12_isMine_49 ?_
  refine uu_iload_n dX12_isMine_52 rfl (List.mem_of_getElem? (i := 2) rfl) ?_
  obtain ⟨v1, e2, h⟩ := uu_ob h
  refine uu_iald e2 dX12_isMine_53 ?_
  refine uu_if_lt (tgt := 143) dX12_isMine_54 (by decide) (fun c3 => ?_) (fun c3 => ?_)
  · replace h := uu_pos c3 h
    refine uu_iload_n dX12_isMine_143 rfl (List.mem_of_getElem? (i := 1) rfl) ?_
    have hr := Option.some.inj h
    subst hr
    exact uu_zret (x := bI b1) rfl (bI_z _) dX12_isMine_144
  · replace h := uu_neg c3 h
    refine uu_iload_n dX12_isMine_57 rfl (List.mem_of_getElem? (i := 3) rfl) ?_
    refine uu_aload_n dX12_isMine_58 rfl (List.mem_of_getElem? (i := 0) rfl) ?_
    refine uu_geta (ci := 12) (N := 153) fX12_300 (by decide) so_1079.is (by decide) (c := 1105) (by decide) dX12_isMine_59 ?_
    refine uu_iload_n dX12_isMine_62 rfl (List.mem_of_getElem? (i := 2) rfl) ?_
    obtain ⟨v4, e5, h⟩ := uu_ob h
    refine uu_iald e5 dX12_isMine_63 ?_
    refine uu_icmp_ge (tgt := 143) dX12_isMine_64 (by decide) (fun c6 => ?_) (fun c6 => ?_)
    · replace h := uu_pos c6 h
      refine uu_iload_n dX12_isMine_143 rfl (List.mem_of_getElem? (i := 1) rfl) ?_
      have hr := Option.some.inj h
      subst hr
      exact uu_zret (x := bI b1) rfl (bI_z _) dX12_isMine_144
    · replace h := uu_neg c6 h
      refine uu_iload_n dX12_isMine_67 rfl (List.mem_of_getElem? (i := 1) rfl) ?_
      refine uu_ifb_ne (tgt := 143) dX12_isMine_68 (by decide) (fun c7 => ?_) (fun c7 => ?_)
      · replace h := uu_pos c7 h
        refine uu_iload_n dX12_isMine_143 rfl (List.mem_of_getElem? (i := 1) rfl) ?_
        have hr := Option.some.inj h
        subst hr
        exact uu_zret (x := bI b1) rfl (bI_z _) dX12_isMine_144
      · replace h := uu_neg c7 h
        refine uu_aload_n dX12_isMine_71 rfl (List.mem_of_getElem? (i := 0) rfl) ?_
        refine uu_geta (ci := 12) (N := 153) fX12_454 (by decide) so_1079.is (by decide) (c := 1104) (by decide) dX12_isMine_72 ?_
        refine uu_iload_n dX12_isMine_75 rfl (List.mem_of_getElem? (i := 2) rfl) ?_
        obtain ⟨v8, e9, h⟩ := uu_ob h
        refine uu_iald e9 dX12_isMine_76 ?_
        refine uu_iload_n dX12_isMine_77 rfl (List.mem_of_getElem? (i := 3) rfl) ?_
        refine uu_iadd dX12_isMine_78 ?_
        refine uu_istore dX12_isMine_79 (by decide) rfl ?_
        refine uu_aload_n dX12_isMine_81 rfl (List.mem_of_getElem? (i := 1) rfl) ?_
        refine uu_aload_n dX12_isMine_82 rfl (List.mem_of_getElem? (i := 1) rfl) ?_
        refine uu_geta (ci := 12) (N := 153) fX12_346 (by decide) so_1079.is (by decide) (c := 1117) (by decide) dX12_isMine_83 ?_
        refine uu_iload dX12_isMine_86 (List.mem_of_getElem? (i := 0) rfl) ?_
        obtain ⟨v10, e11, h⟩ := uu_ob h
        refine uu_iald e11 dX12_isMine_88 ?_
        refine uu_puti (ft := .int) (ci := 12) (N := 153) fX12_113 ptX12 (Or.inl rfl) (by decide) so_1079.is (by decide) (by decide) (by decide +kernel) rfl rfl dX12_isMine_89 ?_
        refine uu_iconst (v := 0) dX12_isMine_92 (by decide) ?_
        refine uu_istore dX12_isMine_93 (by decide) rfl ?_
        refine uu_lv [2, 4, 5, 1, 0] (lv' := [(0, .ref (B + 1079)), (2, .int x2), (3, .int x3), (4, .int (v8 + x3)), (5, .int 0)]) rfl ?_
        exact xn_X12_isMine_95 uk hK48 _ _ _ _ _ _ _ h
def fn_X12_isMine_48  : Nat → Bool → Int32 → Int32 → uS → Option (uS × Bool)
  | 0 => fun _ _ _ _ => none
  | n + 1 => fb_X12_isMine_48 (fn_X12_isMine_48  n)
set_option maxRecDepth 100000 in
set_option maxHeartbeats 4000000 in
theorem xn_X12_isMine_48 {l : Launch} {D : va_G} {A : Nat → ClassId} {B : Nat} {Z : State → Heap → Prop} {vF : Value} (uk : uK B Z vF)   : ∀ (n : Nat) (b1 : Bool) (x2 : Int32) (x3 : Int32)  (s : uS) (r : (uS × Bool)), fn_X12_isMine_48  n b1 x2 x3 s = some r → GU l D A B Z mX12_isMine 2 (r.1, some (.int (bI r.2))) s 48 [(0, .ref (B + 1079)), (1, .int (bI b1)), (2, .int x2), (3, .int x3)] [] := by
  intro n
  induction n with
  | zero => intro b1 x2 x3 s r h
            cases h
  | succ n ih => intro b1 x2 x3 s r h
                 exact xb_X12_isMine_48 uk ih  h
def fb_X12_isMine_10 (K10 : Int32 → uS → Option (uS × Bool)) (x1 : Int32) (s : uS) : Option (uS × Bool) := if (s.I 1079 91) ≤ x1 then ((fn_X12_likeLow s).bind fun v2 => fn_X12_isMine_48 uFu v2 (s.I 1079 105) 0 s) else ((iget 20 s 1136 x1).bind fun v4 => (iput 20 s 1094 x1 v4).bind fun s6 => K10 (x1 + 1) s6)
set_option maxRecDepth 100000 in
set_option maxHeartbeats 4000000 in
theorem xb_X12_isMine_10 {l : Launch} {D : va_G} {A : Nat → ClassId} {B : Nat} {Z : State → Heap → Prop} {vF : Value} (uk : uK B Z vF) {K10 : Int32 → uS → Option (uS × Bool)} (hK10 : ∀ (x1 : Int32)  (s : uS) (r : (uS × Bool)), K10 x1 s = some r → GU l D A B Z mX12_isMine 2 (r.1, some (.int (bI r.2))) s 10 [(0, .ref (B + 1079)), (1, .int x1)] []) {x1 : Int32} {s : uS} {r : (uS × Bool)}  (h : fb_X12_isMine_10 K10 x1 s = some r) : GU l D A B Z mX12_isMine 2 (r.1, some (.int (bI r.2))) s 10 [(0, .ref (B + 1079)), (1, .int x1)] [] := by
  unfold fb_X12_isMine_10 at h
  refine uu_iload_n dX12_isMine_10 rfl (List.mem_of_getElem? (i := 1) rfl) ?_
  refine uu_aload_n dX12_isMine_11 rfl (List.mem_of_getElem? (i := 0) rfl) ?_
  refine uu_geti (ci := 12) (N := 153) fX12_684 (by decide) so_1079.is (by decide) (by decide) dX12_isMine_12 ?_
  refine uu_icmp_ge (tgt := 36) dX12_isMine_15 (by decide) (fun c1 => ?_) (fun c1 => ?_)
  · replace h := uu_pos c1 h
    refine uu_aload_n dX12_isMine_36 rfl (List.mem_of_getElem? (i := 0) rfl) ?_
    obtain ⟨v2, e3, h⟩ := uu_ob h
    refine uu_cv (d1 := 1) (k := 1079) (ci := 12) (T := TX12) (N := 153) (As := []) (st := []) (st' := [.int (bI v2)]) (xc_X12_likeLow uk  e3) so_1079.is (by decide) rfl kX12_likeLow lX12_129 sX12_likeLow (by decide) (Nat.le_of_ble_eq_true rfl) dX12_isMine_37 rfl ?_
    refine uu_istore_n dX12_isMine_40 rfl (by decide) rfl ?_
    refine uu_aload_n dX12_isMine_41 rfl (List.mem_of_getElem? (i := 1) rfl) ?_
    refine uu_geti (ci := 12) (N := 153) fX12_761 (by decide) so_1079.is (by decide) (by decide) dX12_isMine_42 ?_
    refine uu_istore_n dX12_isMine_45 rfl (by decide) rfl ?_
    refine uu_iconst (v := 0) dX12_isMine_46 (by decide) ?_
    refine uu_istore_n dX12_isMine_47 rfl (by decide) rfl ?_
    refine uu_lv [3, 2, 1, 0] (lv' := [(0, .ref (B + 1079)), (1, .int (bI v2)), (2, .int (s.I 1079 105)), (3, .int 0)]) rfl ?_
    exact xn_X12_isMine_48 uk  _ _ _ _ _ _ h
  · replace h := uu_neg c1 h
    refine uu_aload_n dX12_isMine_18 rfl (List.mem_of_getElem? (i := 0) rfl) ?_
    refine uu_geta (ci := 12) (N := 153) fX12_122 (by decide) so_1079.is (by decide) (c := 1094) (by decide) dX12_isMine_19 ?_
    refine uu_iload_n dX12_isMine_22 rfl (List.mem_of_getElem? (i := 1) rfl) ?_
    refine uu_aload_n dX12_isMine_23 rfl (List.mem_of_getElem? (i := 0) rfl) ?_
    refine uu_geta (ci := 12) (N := 153) fX12_687 (by decide) so_1079.is (by decide) (c := 1136) (by decide) dX12_isMine_24 ?_
    refine uu_iload_n dX12_isMine_27 rfl (List.mem_of_getElem? (i := 1) rfl) ?_
    obtain ⟨v4, e5, h⟩ := uu_ob h
    refine uu_iald e5 dX12_isMine_28 ?_
    obtain ⟨s6, e7, h⟩ := uu_ob h
    refine uu_iast e7 dX12_isMine_29 ?_
    refine uu_iinc (v := x1 + 1) dX12_isMine_30 (k := 1) rfl rfl (by decide) rfl ?_
    refine uu_goto (tgt := 10) dX12_isMine_33 (by decide) ?_
    refine uu_lv [1, 0] (lv' := [(0, .ref (B + 1079)), (1, .int (x1 + 1))]) rfl ?_
    exact hK10 (x1 + 1) _ _ h
def fn_X12_isMine_10  : Nat → Int32 → uS → Option (uS × Bool)
  | 0 => fun _ _ => none
  | n + 1 => fb_X12_isMine_10 (fn_X12_isMine_10  n)
set_option maxRecDepth 100000 in
set_option maxHeartbeats 4000000 in
theorem xn_X12_isMine_10 {l : Launch} {D : va_G} {A : Nat → ClassId} {B : Nat} {Z : State → Heap → Prop} {vF : Value} (uk : uK B Z vF)   : ∀ (n : Nat) (x1 : Int32)  (s : uS) (r : (uS × Bool)), fn_X12_isMine_10  n x1 s = some r → GU l D A B Z mX12_isMine 2 (r.1, some (.int (bI r.2))) s 10 [(0, .ref (B + 1079)), (1, .int x1)] [] := by
  intro n
  induction n with
  | zero => intro x1 s r h
            cases h
  | succ n ih => intro x1 s r h
                 exact xb_X12_isMine_10 uk ih  h
def fn_X12_isMine  (s : uS) : Option (uS × Bool) := fn_X12_isMine_10 uFu 0 (wI s 1079 23 (s.I 1079 91))
set_option maxRecDepth 100000 in
set_option maxHeartbeats 4000000 in
theorem xc_X12_isMine {l : Launch} {D : va_G} {A : Nat → ClassId} {B : Nat} {Z : State → Heap → Prop} {vF : Value} (uk : uK B Z vF)  {s : uS} {r : (uS × Bool)}  (h : fn_X12_isMine  s = some r) : CU l D A B Z 2 mX12_isMine s [.ref (B + 1079)] (r.1, some (.int (bI r.2))) := by
  unfold fn_X12_isMine at h
  refine cu_of rfl uk.1.1 (Nat.le_of_ble_eq_true rfl) ?_
  show GU _ _ _ _ _ _ _ _ _ 0 [(0, .ref (B + 1079))] []
  refine uu_aload_n dX12_isMine_0 rfl (List.mem_of_getElem? (i := 0) rfl) ?_
  refine uu_aload_n dX12_isMine_1 rfl (List.mem_of_getElem? (i := 0) rfl) ?_
  refine uu_geti (ci := 12) (N := 153) fX12_684 (by decide) so_1079.is (by decide) (by decide) dX12_isMine_2 ?_
  refine uu_puti (ft := .int) (ci := 12) (N := 153) fX12_113 ptX12 (Or.inl rfl) (by decide) so_1079.is (by decide) (by decide) (by decide +kernel) rfl rfl dX12_isMine_5 ?_
  refine uu_iconst (v := 0) dX12_isMine_8 (by decide) ?_
  refine uu_istore_n dX12_isMine_9 rfl (by decide) rfl ?_
  refine uu_lv [1, 0] (lv' := [(0, .ref (B + 1079)), (1, .int 0)]) rfl ?_
  exact xn_X12_isMine_10 uk  _ _ _ _ h
abbrev mX12_isForMe : hM := (yX12_isForMe, cX12_isForMe, 4, (some (.boolean)))
theorem dX12_isForMe_73 : decode cX12_isForMe 73 = .ok (.aload_n 0, 1) := by decide +kernel
theorem dX12_isForMe_74 : decode cX12_isForMe 74 = .ok (.invokevirtual 672, 3) := by decide +kernel
theorem dX12_isForMe_77 : decode cX12_isForMe 77 = .ok (.ifCond .eq 30, 3) := by decide +kernel
theorem dX12_isForMe_107 : decode cX12_isForMe 107 = .ok (.iinc 2 1, 3) := by decide +kernel
theorem dX12_isForMe_110 : decode cX12_isForMe 110 = .ok (.goto (-106), 3) := by decide +kernel
theorem dX12_isForMe_80 : decode cX12_isForMe 80 = .ok (.iload_n 1, 1) := by decide +kernel
theorem dX12_isForMe_81 : decode cX12_isForMe 81 = .ok (.ifCond .ne 17, 3) := by decide +kernel
theorem dX12_isForMe_98 : decode cX12_isForMe 98 = .ok (.iconst 1, 1) := by decide +kernel
theorem dX12_isForMe_99 : decode cX12_isForMe 99 = .ok (.goto 4, 3) := by decide +kernel
theorem dX12_isForMe_103 : decode cX12_isForMe 103 = .ok (.istore_n 1, 1) := by decide +kernel
theorem dX12_isForMe_104 : decode cX12_isForMe 104 = .ok (.goto (-31), 3) := by decide +kernel
theorem dX12_isForMe_84 : decode cX12_isForMe 84 = .ok (.aload_n 0, 1) := by decide +kernel
theorem dX12_isForMe_85 : decode cX12_isForMe 85 = .ok (.invokevirtual 469, 3) := by decide +kernel
theorem dX12_isForMe_88 : decode cX12_isForMe 88 = .ok (.ifCond .lt 14, 3) := by decide +kernel
theorem dX12_isForMe_102 : decode cX12_isForMe 102 = .ok (.iconst 0, 1) := by decide +kernel
theorem dX12_isForMe_91 : decode cX12_isForMe 91 = .ok (.aload_n 0, 1) := by decide +kernel
theorem kX12_isMine : h_ml mX12_isMine 0 := ⟨h_t10 79 rfl rfl, h_t1 16 rfl rfl, ⟨by decide, by decide, by decide +kernel⟩, by decide⟩
theorem lX12_839 : Cond.methodLink RX12 839 mX12_isMine.1 ∈ lw_g := h_t10 76 rfl rfl
theorem sX12_isMine : Cond.instanceMethod mX12_isMine.1 ∈ lw_g ∧ Cond.selects mX12_isMine.1.cls mX12_isMine.1 mX12_isMine.1 ∈ lw_g := ⟨h_t10 78 rfl rfl, h_ins 214 rfl⟩
theorem dX12_isForMe_92 : decode cX12_isForMe 92 = .ok (.invokevirtual 839, 3) := by decide +kernel
theorem dX12_isForMe_95 : decode cX12_isForMe 95 = .ok (.ifCond .eq 7, 3) := by decide +kernel
theorem dX12_isForMe_52 : decode cX12_isForMe 52 = .ok (.istore_n 3, 1) := by decide +kernel
theorem dX12_isForMe_53 : decode cX12_isForMe 53 = .ok (.iload_n 3, 1) := by decide +kernel
theorem dX12_isForMe_54 : decode cX12_isForMe 54 = .ok (.ifCond .ne 6, 3) := by decide +kernel
theorem dX12_isForMe_60 : decode cX12_isForMe 60 = .ok (.aload_n 0, 1) := by decide +kernel
theorem dX12_isForMe_61 : decode cX12_isForMe 61 = .ok (.iload_n 2, 1) := by decide +kernel
theorem dX12_isForMe_62 : decode cX12_isForMe 62 = .ok (.invokevirtual 661, 3) := by decide +kernel
theorem dX12_isForMe_65 : decode cX12_isForMe 65 = .ok (.aload_n 0, 1) := by decide +kernel
theorem dX12_isForMe_66 : decode cX12_isForMe 66 = .ok (.invokevirtual 666, 3) := by decide +kernel
theorem dX12_isForMe_69 : decode cX12_isForMe 69 = .ok (.aload_n 0, 1) := by decide +kernel
theorem dX12_isForMe_70 : decode cX12_isForMe 70 = .ok (.invokevirtual 669, 3) := by decide +kernel
theorem dX12_isForMe_57 : decode cX12_isForMe 57 = .ok (.goto 50, 3) := by decide +kernel
theorem dX12_isForMe_4 : decode cX12_isForMe 4 = .ok (.iload_n 2, 1) := by decide +kernel
theorem dX12_isForMe_5 : decode cX12_isForMe 5 = .ok (.aload_n 0, 1) := by decide +kernel
theorem dX12_isForMe_6 : decode cX12_isForMe 6 = .ok (.getfield 85, 3) := by decide +kernel
theorem dX12_isForMe_9 : decode cX12_isForMe 9 = .ok (.if_icmp .ge 104, 3) := by decide +kernel
theorem dX12_isForMe_113 : decode cX12_isForMe 113 = .ok (.iload_n 1, 1) := by decide +kernel
theorem dX12_isForMe_114 : decode cX12_isForMe 114 = .ok (.ireturn, 1) := by decide +kernel
theorem dX12_isForMe_12 : decode cX12_isForMe 12 = .ok (.aload_n 0, 1) := by decide +kernel
theorem dX12_isForMe_13 : decode cX12_isForMe 13 = .ok (.iload_n 2, 1) := by decide +kernel
theorem dX12_isForMe_14 : decode cX12_isForMe 14 = .ok (.invokevirtual 811, 3) := by decide +kernel
theorem dX12_isForMe_17 : decode cX12_isForMe 17 = .ok (.aload_n 0, 1) := by decide +kernel
theorem dX12_isForMe_18 : decode cX12_isForMe 18 = .ok (.ldc_w 692, 3) := by decide +kernel
theorem dX12_isForMe_21 : decode cX12_isForMe 21 = .ok (.invokevirtual 158, 3) := by decide +kernel
theorem dX12_isForMe_24 : decode cX12_isForMe 24 = .ok (.ifCond .ne 23, 3) := by decide +kernel
theorem dX12_isForMe_47 : decode cX12_isForMe 47 = .ok (.iconst 1, 1) := by decide +kernel
theorem dX12_isForMe_48 : decode cX12_isForMe 48 = .ok (.goto 4, 3) := by decide +kernel
theorem dX12_isForMe_27 : decode cX12_isForMe 27 = .ok (.aload_n 0, 1) := by decide +kernel
theorem dX12_isForMe_28 : decode cX12_isForMe 28 = .ok (.ldc_w 835, 3) := by decide +kernel
theorem dX12_isForMe_31 : decode cX12_isForMe 31 = .ok (.invokevirtual 158, 3) := by decide +kernel
theorem dX12_isForMe_34 : decode cX12_isForMe 34 = .ok (.ifCond .ne 13, 3) := by decide +kernel
theorem dX12_isForMe_37 : decode cX12_isForMe 37 = .ok (.aload_n 0, 1) := by decide +kernel
theorem dX12_isForMe_38 : decode cX12_isForMe 38 = .ok (.ldc_w 837, 3) := by decide +kernel
theorem dX12_isForMe_41 : decode cX12_isForMe 41 = .ok (.invokevirtual 158, 3) := by decide +kernel
theorem dX12_isForMe_44 : decode cX12_isForMe 44 = .ok (.ifCond .eq 7, 3) := by decide +kernel
theorem dX12_isForMe_51 : decode cX12_isForMe 51 = .ok (.iconst 0, 1) := by decide +kernel
theorem dX12_isForMe_0 : decode cX12_isForMe 0 = .ok (.iconst 0, 1) := by decide +kernel
theorem dX12_isForMe_1 : decode cX12_isForMe 1 = .ok (.istore_n 1, 1) := by decide +kernel
theorem dX12_isForMe_2 : decode cX12_isForMe 2 = .ok (.iconst 0, 1) := by decide +kernel
theorem dX12_isForMe_3 : decode cX12_isForMe 3 = .ok (.istore_n 2, 1) := by decide +kernel
def fb_X12_isForMe_73 (K4 : Bool → Int32 → uS → Option (uS × Bool)) (K73 : Bool → Int32 → uS → Option (uS × Bool)) (b1 : Bool) (x2 : Int32) (s : uS) : Option (uS × Bool) := (fn_X12_nextPart s).bind fun r1 => if r1.2 = true then (if b1 = true then (K73 true x2 r1.1) else ((fn_X12_atOf r1.1).bind fun v5 => if v5 < 0 then (K73 false x2 r1.1) else ((fn_X12_isMine r1.1).bind fun r8 => if r8.2 = true then (K73 true x2 r8.1) else (K73 false x2 r8.1)))) else (K4 b1 (x2 + 1) r1.1)
set_option maxRecDepth 100000 in
set_option maxHeartbeats 4000000 in
theorem xb_X12_isForMe_73 {l : Launch} {D : va_G} {A : Nat → ClassId} {B : Nat} {Z : State → Heap → Prop} {vF : Value} (uk : uK B Z vF) {K4 : Bool → Int32 → uS → Option (uS × Bool)} {K73 : Bool → Int32 → uS → Option (uS × Bool)} (hK4 : ∀ (b1 : Bool) (x2 : Int32)  (s : uS) (r : (uS × Bool)), K4 b1 x2 s = some r → GU l D A B Z mX12_isForMe 6 (r.1, some (.int (bI r.2))) s 4 [(0, .ref (B + 1079)), (1, .int (bI b1)), (2, .int x2)] []) (hK73 : ∀ (b1 : Bool) (x2 : Int32)  (s : uS) (r : (uS × Bool)), K73 b1 x2 s = some r → GU l D A B Z mX12_isForMe 6 (r.1, some (.int (bI r.2))) s 73 [(0, .ref (B + 1079)), (1, .int (bI b1)), (2, .int x2)] []) {b1 : Bool} {x2 : Int32} {s : uS} {r : (uS × Bool)}  (h : fb_X12_isForMe_73 K4 K73 b1 x2 s = some r) : GU l D A B Z mX12_isForMe 6 (r.1, some (.int (bI r.2))) s 73 [(0, .ref (B + 1079)), (1, .int (bI b1)), (2, .int x2)] [] := by
  unfold fb_X12_isForMe_73 at h
  refine uu_aload_n dX12_isForMe_73 rfl (List.mem_of_getElem? (i := 0) rfl) ?_
  obtain ⟨r1, e2, h⟩ := uu_ob h
  refine uu_cv (d1 := 1) (k := 1079) (ci := 12) (T := TX12) (N := 153) (As := []) (st := []) (st' := [.int (bI r1.2)]) (xc_X12_nextPart uk  e2) so_1079.is (by decide) rfl kX12_nextPart lX12_672 sX12_nextPart (by decide) (Nat.le_of_ble_eq_true rfl) dX12_isForMe_74 rfl ?_
  refine uu_ifb_eq (tgt := 107) dX12_isForMe_77 (by decide) (fun c3 => ?_) (fun c3 => ?_)
  · replace h := uu_neg c3 h
    refine uu_iinc (v := x2 + 1) dX12_isForMe_107 (k := 2) rfl rfl (by decide) rfl ?_
    refine uu_goto (tgt := 4) dX12_isForMe_110 (by decide) ?_
    refine uu_lv [1, 2, 0] (lv' := [(0, .ref (B + 1079)), (1, .int (bI b1)), (2, .int (x2 + 1))]) rfl ?_
    exact hK4 b1 (x2 + 1) _ _ h
  · replace h := uu_pos c3 h
    refine uu_iload_n dX12_isForMe_80 rfl (List.mem_of_getElem? (i := 1) rfl) ?_
    refine uu_ifb_ne (tgt := 98) dX12_isForMe_81 (by decide) (fun c4 => ?_) (fun c4 => ?_)
    · replace h := uu_pos c4 h
      refine uu_iconst (v := 1) dX12_isForMe_98 (by decide) ?_
      refine uu_goto (tgt := 103) dX12_isForMe_99 (by decide) ?_
      refine uu_istore_n dX12_isForMe_103 rfl (by decide) rfl ?_
      refine uu_goto (tgt := 73) dX12_isForMe_104 (by decide) ?_
      refine uu_lv [1, 0, 2] (lv' := [(0, .ref (B + 1079)), (1, .int 1), (2, .int x2)]) rfl ?_
      exact hK73 true x2 _ _ h
    · replace h := uu_neg c4 h
      refine uu_aload_n dX12_isForMe_84 rfl (List.mem_of_getElem? (i := 0) rfl) ?_
      obtain ⟨v5, e6, h⟩ := uu_ob h
      refine uu_cv (d1 := 3) (k := 1079) (ci := 12) (T := TX12) (N := 153) (As := []) (st := []) (st' := [.int v5]) (xc_X12_atOf uk  e6) so_1079.is (by decide) rfl kX12_atOf lX12_469 sX12_atOf (by decide) (Nat.le_of_ble_eq_true rfl) dX12_isForMe_85 rfl ?_
      refine uu_if_lt (tgt := 102) dX12_isForMe_88 (by decide) (fun c7 => ?_) (fun c7 => ?_)
      · replace h := uu_pos c7 h
        refine uu_iconst (v := 0) dX12_isForMe_102 (by decide) ?_
        refine uu_istore_n dX12_isForMe_103 rfl (by decide) rfl ?_
        refine uu_goto (tgt := 73) dX12_isForMe_104 (by decide) ?_
        refine uu_lv [1, 0, 2] (lv' := [(0, .ref (B + 1079)), (1, .int 0), (2, .int x2)]) rfl ?_
        exact hK73 false x2 _ _ h
      · replace h := uu_neg c7 h
        refine uu_aload_n dX12_isForMe_91 rfl (List.mem_of_getElem? (i := 0) rfl) ?_
        obtain ⟨r8, e9, h⟩ := uu_ob h
        refine uu_cv (d1 := 2) (k := 1079) (ci := 12) (T := TX12) (N := 153) (As := []) (st := []) (st' := [.int (bI r8.2)]) (xc_X12_isMine uk  e9) so_1079.is (by decide) rfl kX12_isMine lX12_839 sX12_isMine (by decide) (Nat.le_of_ble_eq_true rfl) dX12_isForMe_92 rfl ?_
        refine uu_ifb_eq (tgt := 102) dX12_isForMe_95 (by decide) (fun c10 => ?_) (fun c10 => ?_)
        · replace h := uu_neg c10 h
          refine uu_iconst (v := 0) dX12_isForMe_102 (by decide) ?_
          refine uu_istore_n dX12_isForMe_103 rfl (by decide) rfl ?_
          refine uu_goto (tgt := 73) dX12_isForMe_104 (by decide) ?_
          refine uu_lv [1, 0, 2] (lv' := [(0, .ref (B + 1079)), (1, .int 0), (2, .int x2)]) rfl ?_
          exact hK73 false x2 _ _ h
        · replace h := uu_pos c10 h
          refine uu_iconst (v := 1) dX12_isForMe_98 (by decide) ?_
          refine uu_goto (tgt := 103) dX12_isForMe_99 (by decide) ?_
          refine uu_istore_n dX12_isForMe_103 rfl (by decide) rfl ?_
          refine uu_goto (tgt := 73) dX12_isForMe_104 (by decide) ?_
          refine uu_lv [1, 0, 2] (lv' := [(0, .ref (B + 1079)), (1, .int 1), (2, .int x2)]) rfl ?_
          exact hK73 true x2 _ _ h
def fn_X12_isForMe_73 (K4 : Bool → Int32 → uS → Option (uS × Bool)) : Nat → Bool → Int32 → uS → Option (uS × Bool)
  | 0 => fun _ _ _ => none
  | n + 1 => fb_X12_isForMe_73 K4 (fn_X12_isForMe_73 K4 n)
set_option maxRecDepth 100000 in
set_option maxHeartbeats 4000000 in
theorem xn_X12_isForMe_73 {l : Launch} {D : va_G} {A : Nat → ClassId} {B : Nat} {Z : State → Heap → Prop} {vF : Value} (uk : uK B Z vF) {K4 : Bool → Int32 → uS → Option (uS × Bool)} (hK4 : ∀ (b1 : Bool) (x2 : Int32)  (s : uS) (r : (uS × Bool)), K4 b1 x2 s = some r → GU l D A B Z mX12_isForMe 6 (r.1, some (.int (bI r.2))) s 4 [(0, .ref (B + 1079)), (1, .int (bI b1)), (2, .int x2)] []) : ∀ (n : Nat) (b1 : Bool) (x2 : Int32)  (s : uS) (r : (uS × Bool)), fn_X12_isForMe_73 K4 n b1 x2 s = some r → GU l D A B Z mX12_isForMe 6 (r.1, some (.int (bI r.2))) s 73 [(0, .ref (B + 1079)), (1, .int (bI b1)), (2, .int x2)] [] := by
  intro n
  induction n with
  | zero => intro b1 x2 s r h
            cases h
  | succ n ih => intro b1 x2 s r h
                 exact xb_X12_isForMe_73 uk hK4 ih  h
def fb_X12_isForMe_52 (K4 : Bool → Int32 → uS → Option (uS × Bool)) (b1 : Bool) (x2 : Int32) (bs0 : Bool) (s : uS) : Option (uS × Bool) := if bs0 = true then ((fn_X12_oneValue x2 s).bind fun s2 => (fn_X12_keepWhole s2).bind fun s4 => (fn_X12_beginParts s4).bind fun s6 => fn_X12_isForMe_73 K4 uFu b1 x2 s6) else (K4 b1 (x2 + 1) s)
set_option maxRecDepth 100000 in
set_option maxHeartbeats 4000000 in
theorem xb_X12_isForMe_52 {l : Launch} {D : va_G} {A : Nat → ClassId} {B : Nat} {Z : State → Heap → Prop} {vF : Value} (uk : uK B Z vF) {K4 : Bool → Int32 → uS → Option (uS × Bool)} (hK4 : ∀ (b1 : Bool) (x2 : Int32)  (s : uS) (r : (uS × Bool)), K4 b1 x2 s = some r → GU l D A B Z mX12_isForMe 6 (r.1, some (.int (bI r.2))) s 4 [(0, .ref (B + 1079)), (1, .int (bI b1)), (2, .int x2)] []) {b1 : Bool} {x2 : Int32} {bs0 : Bool} {s : uS} {r : (uS × Bool)}  (h : fb_X12_isForMe_52 K4 b1 x2 bs0 s = some r) : GU l D A B Z mX12_isForMe 6 (r.1, some (.int (bI r.2))) s 52 [(0, .ref (B + 1079)), (1, .int (bI b1)), (2, .int x2)] [.int (bI bs0)] := by
  unfold fb_X12_isForMe_52 at h
  refine uu_istore_n dX12_isForMe_52 rfl (by decide) rfl ?_
  refine uu_iload_n dX12_isForMe_53 rfl (List.mem_of_getElem? (i := 0) rfl) ?_
  refine uu_ifb_ne (tgt := 60) dX12_isForMe_54 (by decide) (fun c1 => ?_) (fun c1 => ?_)
  · replace h := uu_pos c1 h
    refine uu_aload_n dX12_isForMe_60 rfl (List.mem_of_getElem? (i := 1) rfl) ?_
    refine uu_iload_n dX12_isForMe_61 rfl (List.mem_of_getElem? (i := 3) rfl) ?_
    obtain ⟨s2, e3, h⟩ := uu_ob h
    refine uu_cv (d1 := 0) (k := 1079) (ci := 12) (T := TX12) (N := 153) (As := [.int x2]) (st := []) (st' := []) (xc_X12_oneValue uk  e3) so_1079.is (by decide) rfl kX12_oneValue lX12_661 sX12_oneValue (by decide) (Nat.le_of_ble_eq_true rfl) dX12_isForMe_62 rfl ?_
    refine uu_aload_n dX12_isForMe_65 rfl (List.mem_of_getElem? (i := 1) rfl) ?_
    obtain ⟨s4, e5, h⟩ := uu_ob h
    refine uu_cv (d1 := 0) (k := 1079) (ci := 12) (T := TX12) (N := 153) (As := []) (st := []) (st' := []) (xc_X12_keepWhole uk  e5) so_1079.is (by decide) rfl kX12_keepWhole lX12_666 sX12_keepWhole (by decide) (Nat.le_of_ble_eq_true rfl) dX12_isForMe_66 rfl ?_
    refine uu_aload_n dX12_isForMe_69 rfl (List.mem_of_getElem? (i := 1) rfl) ?_
    obtain ⟨s6, e7, h⟩ := uu_ob h
    refine uu_cv (d1 := 0) (k := 1079) (ci := 12) (T := TX12) (N := 153) (As := []) (st := []) (st' := []) (xc_X12_beginParts uk  e7) so_1079.is (by decide) rfl kX12_beginParts lX12_669 sX12_beginParts (by decide) (Nat.le_of_ble_eq_true rfl) dX12_isForMe_70 rfl ?_
    refine uu_lv [1, 2, 3] (lv' := [(0, .ref (B + 1079)), (1, .int (bI b1)), (2, .int x2)]) rfl ?_
    exact xn_X12_isForMe_73 uk hK4 _ _ _ _ _ h
  · replace h := uu_neg c1 h
    refine uu_goto (tgt := 107) dX12_isForMe_57 (by decide) ?_
    refine uu_iinc (v := x2 + 1) dX12_isForMe_107 (k := 3) rfl rfl (by decide) rfl ?_
    refine uu_goto (tgt := 4) dX12_isForMe_110 (by decide) ?_
    refine uu_lv [2, 3, 0] (lv' := [(0, .ref (B + 1079)), (1, .int (bI b1)), (2, .int (x2 + 1))]) rfl ?_
    exact hK4 b1 (x2 + 1) _ _ h
def fb_X12_isForMe_4 (K4 : Bool → Int32 → uS → Option (uS × Bool)) (b1 : Bool) (x2 : Int32) (s : uS) : Option (uS × Bool) := if (s.I 1079 14) ≤ x2 then (some (s, b1)) else ((fn_X12_oneName x2 s).bind fun s2 => (fn_X12_oneIs kW_136 s2).bind fun r5 => if r5.2 = true then (fb_X12_isForMe_52 K4 b1 x2 true r5.1) else ((fn_X12_oneIs kW_150 r5.1).bind fun r9 => if r9.2 = true then (fb_X12_isForMe_52 K4 b1 x2 true r9.1) else ((fn_X12_oneIs kW_151 r9.1).bind fun r13 => if r13.2 = true then (fb_X12_isForMe_52 K4 b1 x2 true r13.1) else (fb_X12_isForMe_52 K4 b1 x2 false r13.1))))
set_option maxRecDepth 100000 in
set_option maxHeartbeats 4000000 in
theorem xb_X12_isForMe_4 {l : Launch} {D : va_G} {A : Nat → ClassId} {B : Nat} {Z : State → Heap → Prop} {vF : Value} (uk : uK B Z vF) {K4 : Bool → Int32 → uS → Option (uS × Bool)} (hK4 : ∀ (b1 : Bool) (x2 : Int32)  (s : uS) (r : (uS × Bool)), K4 b1 x2 s = some r → GU l D A B Z mX12_isForMe 6 (r.1, some (.int (bI r.2))) s 4 [(0, .ref (B + 1079)), (1, .int (bI b1)), (2, .int x2)] []) {b1 : Bool} {x2 : Int32} {s : uS} {r : (uS × Bool)}  (h : fb_X12_isForMe_4 K4 b1 x2 s = some r) : GU l D A B Z mX12_isForMe 6 (r.1, some (.int (bI r.2))) s 4 [(0, .ref (B + 1079)), (1, .int (bI b1)), (2, .int x2)] [] := by
  unfold fb_X12_isForMe_4 at h
  refine uu_iload_n dX12_isForMe_4 rfl (List.mem_of_getElem? (i := 2) rfl) ?_
  refine uu_aload_n dX12_isForMe_5 rfl (List.mem_of_getElem? (i := 0) rfl) ?_
  refine uu_geti (ci := 12) (N := 153) fX12_85 (by decide) so_1079.is (by decide) (by decide) dX12_isForMe_6 ?_
  refine uu_icmp_ge (tgt := 113) dX12_isForMe_9 (by decide) (fun c1 => ?_) (fun c1 => ?_)
  · replace h := uu_pos c1 h
    refine uu_iload_n dX12_isForMe_113 rfl (List.mem_of_getElem? (i := 1) rfl) ?_
    have hr := Option.some.inj h
    subst hr
    exact uu_zret (x := bI b1) rfl (bI_z _) dX12_isForMe_114
  · replace h := uu_neg c1 h
    refine uu_aload_n dX12_isForMe_12 rfl (List.mem_of_getElem? (i := 0) rfl) ?_
    refine uu_iload_n dX12_isForMe_13 rfl (List.mem_of_getElem? (i := 2) rfl) ?_
    obtain ⟨s2, e3, h⟩ := uu_ob h
    refine uu_cv (d1 := 0) (k := 1079) (ci := 12) (T := TX12) (N := 153) (As := [.int x2]) (st := []) (st' := []) (xc_X12_oneName uk  e3) so_1079.is (by decide) rfl kX12_oneName lX12_811 sX12_oneName (by decide) (Nat.le_of_ble_eq_true rfl) dX12_isForMe_14 rfl ?_
    refine uu_aload_n dX12_isForMe_17 rfl (List.mem_of_getElem? (i := 0) rfl) ?_
    obtain ⟨cq4, cp4, cv4, cw4⟩ := uk.2.1 136 _ rfl
    refine uu_ldcwS cv4 dX12_isForMe_18 ?_
    obtain ⟨r5, e6, h⟩ := uu_ob h
    refine uu_cv (d1 := 5) (k := 1079) (ci := 12) (T := TX12) (N := 153) (As := [.ref cq4]) (st := []) (st' := [.int (bI r5.2)]) (xc_X12_oneIs uk cw4 e6) so_1079.is (by decide) rfl kX12_oneIs lX12_158 sX12_oneIs (by decide) (Nat.le_of_ble_eq_true rfl) dX12_isForMe_21 rfl ?_
    refine uu_ifb_ne (tgt := 47) dX12_isForMe_24 (by decide) (fun c7 => ?_) (fun c7 => ?_)
    · replace h := uu_pos c7 h
      refine uu_iconst (v := 1) dX12_isForMe_47 (by decide) ?_
      refine uu_goto (tgt := 52) dX12_isForMe_48 (by decide) ?_
      exact xb_X12_isForMe_52 uk hK4 h
    · replace h := uu_neg c7 h
      refine uu_aload_n dX12_isForMe_27 rfl (List.mem_of_getElem? (i := 0) rfl) ?_
      obtain ⟨cq8, cp8, cv8, cw8⟩ := uk.2.1 150 _ rfl
      refine uu_ldcwS cv8 dX12_isForMe_28 ?_
      obtain ⟨r9, e10, h⟩ := uu_ob h
      refine uu_cv (d1 := 5) (k := 1079) (ci := 12) (T := TX12) (N := 153) (As := [.ref cq8]) (st := []) (st' := [.int (bI r9.2)]) (xc_X12_oneIs uk cw8 e10) so_1079.is (by decide) rfl kX12_oneIs lX12_158 sX12_oneIs (by decide) (Nat.le_of_ble_eq_true rfl) dX12_isForMe_31 rfl ?_
      refine uu_ifb_ne (tgt := 47) dX12_isForMe_34 (by decide) (fun c11 => ?_) (fun c11 => ?_)
      · replace h := uu_pos c11 h
        refine uu_iconst (v := 1) dX12_isForMe_47 (by decide) ?_
        refine uu_goto (tgt := 52) dX12_isForMe_48 (by decide) ?_
        exact xb_X12_isForMe_52 uk hK4 h
      · replace h := uu_neg c11 h
        refine uu_aload_n dX12_isForMe_37 rfl (List.mem_of_getElem? (i := 0) rfl) ?_
        obtain ⟨cq12, cp12, cv12, cw12⟩ := uk.2.1 151 _ rfl
        refine uu_ldcwS cv12 dX12_isForMe_38 ?_
        obtain ⟨r13, e14, h⟩ := uu_ob h
        refine uu_cv (d1 := 5) (k := 1079) (ci := 12) (T := TX12) (N := 153) (As := [.ref cq12]) (st := []) (st' := [.int (bI r13.2)]) (xc_X12_oneIs uk cw12 e14) so_1079.is (by decide) rfl kX12_oneIs lX12_158 sX12_oneIs (by decide) (Nat.le_of_ble_eq_true rfl) dX12_isForMe_41 rfl ?_
        refine uu_ifb_eq (tgt := 51) dX12_isForMe_44 (by decide) (fun c15 => ?_) (fun c15 => ?_)
        · replace h := uu_neg c15 h
          refine uu_iconst (v := 0) dX12_isForMe_51 (by decide) ?_
          exact xb_X12_isForMe_52 uk hK4 h
        · replace h := uu_pos c15 h
          refine uu_iconst (v := 1) dX12_isForMe_47 (by decide) ?_
          refine uu_goto (tgt := 52) dX12_isForMe_48 (by decide) ?_
          exact xb_X12_isForMe_52 uk hK4 h
def fn_X12_isForMe_4  : Nat → Bool → Int32 → uS → Option (uS × Bool)
  | 0 => fun _ _ _ => none
  | n + 1 => fb_X12_isForMe_4 (fn_X12_isForMe_4  n)
set_option maxRecDepth 100000 in
set_option maxHeartbeats 4000000 in
theorem xn_X12_isForMe_4 {l : Launch} {D : va_G} {A : Nat → ClassId} {B : Nat} {Z : State → Heap → Prop} {vF : Value} (uk : uK B Z vF)   : ∀ (n : Nat) (b1 : Bool) (x2 : Int32)  (s : uS) (r : (uS × Bool)), fn_X12_isForMe_4  n b1 x2 s = some r → GU l D A B Z mX12_isForMe 6 (r.1, some (.int (bI r.2))) s 4 [(0, .ref (B + 1079)), (1, .int (bI b1)), (2, .int x2)] [] := by
  intro n
  induction n with
  | zero => intro b1 x2 s r h
            cases h
  | succ n ih => intro b1 x2 s r h
                 exact xb_X12_isForMe_4 uk ih  h
def fn_X12_isForMe  (s : uS) : Option (uS × Bool) := fn_X12_isForMe_4 uFu false 0 s
set_option maxRecDepth 100000 in
set_option maxHeartbeats 4000000 in
theorem xc_X12_isForMe {l : Launch} {D : va_G} {A : Nat → ClassId} {B : Nat} {Z : State → Heap → Prop} {vF : Value} (uk : uK B Z vF)  {s : uS} {r : (uS × Bool)}  (h : fn_X12_isForMe  s = some r) : CU l D A B Z 6 mX12_isForMe s [.ref (B + 1079)] (r.1, some (.int (bI r.2))) := by
  unfold fn_X12_isForMe at h
  refine cu_of rfl uk.1.1 (Nat.le_of_ble_eq_true rfl) ?_
  show GU _ _ _ _ _ _ _ _ _ 0 [(0, .ref (B + 1079))] []
  refine uu_iconst (v := 0) dX12_isForMe_0 (by decide) ?_
  refine uu_istore_n dX12_isForMe_1 rfl (by decide) rfl ?_
  refine uu_iconst (v := 0) dX12_isForMe_2 (by decide) ?_
  refine uu_istore_n dX12_isForMe_3 rfl (by decide) rfl ?_
  refine uu_lv [2, 1, 0] (lv' := [(0, .ref (B + 1079)), (1, .int 0), (2, .int 0)]) rfl ?_
  exact xn_X12_isForMe_4 uk  _ _ _ _ _ h
abbrev mX12_handleString : hM := (yX12_handleString, cX12_handleString, 1, (some (.int)))
theorem dX12_handleString_0 : decode cX12_handleString 0 = .ok (.aload_n 0, 1) := by decide +kernel
theorem dX12_handleString_1 : decode cX12_handleString 1 = .ok (.getfield 328, 3) := by decide +kernel
theorem dX12_handleString_4 : decode cX12_handleString 4 = .ok (.aload_n 0, 1) := by decide +kernel
theorem dX12_handleString_5 : decode cX12_handleString 5 = .ok (.getfield 761, 3) := by decide +kernel
theorem dX12_handleString_8 : decode cX12_handleString 8 = .ok (.iaload, 1) := by decide +kernel
theorem dX12_handleString_9 : decode cX12_handleString 9 = .ok (.ifCond .lt 15, 3) := by decide +kernel
theorem dX12_handleString_24 : decode cX12_handleString 24 = .ok (.aload_n 0, 1) := by decide +kernel
theorem dX12_handleString_25 : decode cX12_handleString 25 = .ok (.getfield 439, 3) := by decide +kernel
theorem dX12_handleString_28 : decode cX12_handleString 28 = .ok (.aload_n 0, 1) := by decide +kernel
theorem dX12_handleString_29 : decode cX12_handleString 29 = .ok (.getfield 761, 3) := by decide +kernel
theorem dX12_handleString_32 : decode cX12_handleString 32 = .ok (.iaload, 1) := by decide +kernel
theorem dX12_handleString_33 : decode cX12_handleString 33 = .ok (.ireturn, 1) := by decide +kernel
theorem dX12_handleString_12 : decode cX12_handleString 12 = .ok (.aload_n 0, 1) := by decide +kernel
theorem dX12_handleString_13 : decode cX12_handleString 13 = .ok (.getfield 328, 3) := by decide +kernel
theorem dX12_handleString_16 : decode cX12_handleString 16 = .ok (.aload_n 0, 1) := by decide +kernel
theorem dX12_handleString_17 : decode cX12_handleString 17 = .ok (.getfield 761, 3) := by decide +kernel
theorem dX12_handleString_20 : decode cX12_handleString 20 = .ok (.iaload, 1) := by decide +kernel
theorem dX12_handleString_21 : decode cX12_handleString 21 = .ok (.goto 12, 3) := by decide +kernel
def fn_X12_handleString  (s : uS) : Option Int32 := (iget 20 s 1115 (s.I 1079 105)).bind fun v1 => if v1 < 0 then ((iget 20 s 1102 (s.I 1079 105)).bind fun v4 => some v4) else ((iget 20 s 1115 (s.I 1079 105)).bind fun v6 => some v6)
set_option maxRecDepth 100000 in
set_option maxHeartbeats 4000000 in
theorem xc_X12_handleString {l : Launch} {D : va_G} {A : Nat → ClassId} {B : Nat} {Z : State → Heap → Prop} {vF : Value} (uk : uK B Z vF)  {s : uS} {r : Int32}  (h : fn_X12_handleString  s = some r) : CU l D A B Z 0 mX12_handleString s [.ref (B + 1079)] (s, some (.int r)) := by
  unfold fn_X12_handleString at h
  refine cu_of rfl uk.1.1 (Nat.le_of_ble_eq_true rfl) ?_
  show GU _ _ _ _ _ _ _ _ _ 0 [(0, .ref (B + 1079))] []
  refine uu_aload_n dX12_handleString_0 rfl (List.mem_of_getElem? (i := 0) rfl) ?_
  refine uu_geta (ci := 12) (N := 153) fX12_328 (by decide) so_1079.is (by decide) (c := 1115) (by decide) dX12_handleString_1 ?_
  refine uu_aload_n dX12_handleString_4 rfl (List.mem_of_getElem? (i := 0) rfl) ?_
  refine uu_geti (ci := 12) (N := 153) fX12_761 (by decide) so_1079.is (by decide) (by decide) dX12_handleString_5 ?_
  obtain ⟨v1, e2, h⟩ := uu_ob h
  refine uu_iald e2 dX12_handleString_8 ?_
  refine uu_if_lt (tgt := 24) dX12_handleString_9 (by decide) (fun c3 => ?_) (fun c3 => ?_)
  · replace h := uu_pos c3 h
    refine uu_aload_n dX12_handleString_24 rfl (List.mem_of_getElem? (i := 0) rfl) ?_
    refine uu_geta (ci := 12) (N := 153) fX12_439 (by decide) so_1079.is (by decide) (c := 1102) (by decide) dX12_handleString_25 ?_
    refine uu_aload_n dX12_handleString_28 rfl (List.mem_of_getElem? (i := 0) rfl) ?_
    refine uu_geti (ci := 12) (N := 153) fX12_761 (by decide) so_1079.is (by decide) (by decide) dX12_handleString_29 ?_
    obtain ⟨v4, e5, h⟩ := uu_ob h
    refine uu_iald e5 dX12_handleString_32 ?_
    have hr := Option.some.inj h
    subst hr
    exact uu_iret rfl dX12_handleString_33
  · replace h := uu_neg c3 h
    refine uu_aload_n dX12_handleString_12 rfl (List.mem_of_getElem? (i := 0) rfl) ?_
    refine uu_geta (ci := 12) (N := 153) fX12_328 (by decide) so_1079.is (by decide) (c := 1115) (by decide) dX12_handleString_13 ?_
    refine uu_aload_n dX12_handleString_16 rfl (List.mem_of_getElem? (i := 0) rfl) ?_
    refine uu_geti (ci := 12) (N := 153) fX12_761 (by decide) so_1079.is (by decide) (by decide) dX12_handleString_17 ?_
    obtain ⟨v6, e7, h⟩ := uu_ob h
    refine uu_iald e7 dX12_handleString_20 ?_
    refine uu_goto (tgt := 33) dX12_handleString_21 (by decide) ?_
    have hr := Option.some.inj h
    subst hr
    exact uu_iret rfl dX12_handleString_33
abbrev mX12_isNote : hM := (yX12_isNote, cX12_isNote, 5, (some (.boolean)))
theorem dX12_isNote_98 : decode cX12_isNote 98 = .ok (.iload_n 3, 1) := by decide +kernel
theorem dX12_isNote_99 : decode cX12_isNote 99 = .ok (.ifCond .eq 50, 3) := by decide +kernel
theorem dX12_isNote_149 : decode cX12_isNote 149 = .ok (.iload_n 3, 1) := by decide +kernel
theorem dX12_isNote_150 : decode cX12_isNote 150 = .ok (.ireturn, 1) := by decide +kernel
theorem dX12_isNote_102 : decode cX12_isNote 102 = .ok (.iload 4, 2) := by decide +kernel
theorem dX12_isNote_104 : decode cX12_isNote 104 = .ok (.aload_n 0, 1) := by decide +kernel
theorem dX12_isNote_105 : decode cX12_isNote 105 = .ok (.getfield 346, 3) := by decide +kernel
theorem dX12_isNote_108 : decode cX12_isNote 108 = .ok (.iload_n 2, 1) := by decide +kernel
theorem dX12_isNote_109 : decode cX12_isNote 109 = .ok (.iaload, 1) := by decide +kernel
theorem dX12_isNote_110 : decode cX12_isNote 110 = .ok (.if_icmp .ge 39, 3) := by decide +kernel
theorem dX12_isNote_113 : decode cX12_isNote 113 = .ok (.aload_n 0, 1) := by decide +kernel
theorem dX12_isNote_114 : decode cX12_isNote 114 = .ok (.iload_n 1, 1) := by decide +kernel
theorem dX12_isNote_115 : decode cX12_isNote 115 = .ok (.iload 4, 2) := by decide +kernel
theorem kX12_handleAt : h_ml mX12_handleAt 2 := ⟨h_t10 95 rfl rfl, h_t1 16 rfl rfl, ⟨by decide, by decide, by decide +kernel⟩, by decide⟩
theorem lX12_854 : Cond.methodLink RX12 854 mX12_handleAt.1 ∈ lw_g := h_t10 92 rfl rfl
theorem sX12_handleAt : Cond.instanceMethod mX12_handleAt.1 ∈ lw_g ∧ Cond.selects mX12_handleAt.1.cls mX12_handleAt.1 mX12_handleAt.1 ∈ lw_g := ⟨h_t10 94 rfl rfl, h_ins 218 rfl⟩
theorem dX12_isNote_117 : decode cX12_isNote 117 = .ok (.invokevirtual 854, 3) := by decide +kernel
theorem dX12_isNote_120 : decode cX12_isNote 120 = .ok (.aload_n 0, 1) := by decide +kernel
theorem dX12_isNote_121 : decode cX12_isNote 121 = .ok (.getfield 260, 3) := by decide +kernel
theorem dX12_isNote_124 : decode cX12_isNote 124 = .ok (.aload_n 0, 1) := by decide +kernel
theorem dX12_isNote_125 : decode cX12_isNote 125 = .ok (.getfield 343, 3) := by decide +kernel
theorem dX12_isNote_128 : decode cX12_isNote 128 = .ok (.iload_n 2, 1) := by decide +kernel
theorem dX12_isNote_129 : decode cX12_isNote 129 = .ok (.iaload, 1) := by decide +kernel
theorem dX12_isNote_130 : decode cX12_isNote 130 = .ok (.iload 4, 2) := by decide +kernel
theorem dX12_isNote_132 : decode cX12_isNote 132 = .ok (.iadd, 1) := by decide +kernel
theorem dX12_isNote_133 : decode cX12_isNote 133 = .ok (.iaload, 1) := by decide +kernel
theorem dX12_isNote_134 : decode cX12_isNote 134 = .ok (.if_icmp .ne 7, 3) := by decide +kernel
theorem dX12_isNote_141 : decode cX12_isNote 141 = .ok (.iconst 0, 1) := by decide +kernel
theorem dX12_isNote_142 : decode cX12_isNote 142 = .ok (.istore_n 3, 1) := by decide +kernel
theorem dX12_isNote_143 : decode cX12_isNote 143 = .ok (.iinc 4 1, 3) := by decide +kernel
theorem dX12_isNote_146 : decode cX12_isNote 146 = .ok (.goto (-48), 3) := by decide +kernel
theorem dX12_isNote_137 : decode cX12_isNote 137 = .ok (.iconst 1, 1) := by decide +kernel
theorem dX12_isNote_138 : decode cX12_isNote 138 = .ok (.goto 4, 3) := by decide +kernel
theorem dX12_isNote_42 : decode cX12_isNote 42 = .ok (.iload 4, 2) := by decide +kernel
theorem dX12_isNote_44 : decode cX12_isNote 44 = .ok (.aload_n 0, 1) := by decide +kernel
theorem dX12_isNote_45 : decode cX12_isNote 45 = .ok (.getfield 678, 3) := by decide +kernel
theorem dX12_isNote_48 : decode cX12_isNote 48 = .ok (.if_icmp .ge 47, 3) := by decide +kernel
theorem dX12_isNote_95 : decode cX12_isNote 95 = .ok (.iconst 0, 1) := by decide +kernel
theorem dX12_isNote_96 : decode cX12_isNote 96 = .ok (.istore 4, 2) := by decide +kernel
theorem dX12_isNote_51 : decode cX12_isNote 51 = .ok (.iload_n 3, 1) := by decide +kernel
theorem dX12_isNote_52 : decode cX12_isNote 52 = .ok (.ifCond .eq 43, 3) := by decide +kernel
theorem dX12_isNote_55 : decode cX12_isNote 55 = .ok (.aload_n 0, 1) := by decide +kernel
theorem dX12_isNote_56 : decode cX12_isNote 56 = .ok (.getfield 851, 3) := by decide +kernel
theorem dX12_isNote_59 : decode cX12_isNote 59 = .ok (.bipush 101, 2) := by decide +kernel
theorem dX12_isNote_61 : decode cX12_isNote 61 = .ok (.iload_n 1, 1) := by decide +kernel
theorem dX12_isNote_62 : decode cX12_isNote 62 = .ok (.imul, 1) := by decide +kernel
theorem dX12_isNote_63 : decode cX12_isNote 63 = .ok (.iload 4, 2) := by decide +kernel
theorem dX12_isNote_65 : decode cX12_isNote 65 = .ok (.iadd, 1) := by decide +kernel
theorem dX12_isNote_66 : decode cX12_isNote 66 = .ok (.iaload, 1) := by decide +kernel
theorem dX12_isNote_67 : decode cX12_isNote 67 = .ok (.invokestatic 119, 3) := by decide +kernel
theorem dX12_isNote_70 : decode cX12_isNote 70 = .ok (.aload_n 0, 1) := by decide +kernel
theorem dX12_isNote_71 : decode cX12_isNote 71 = .ok (.getfield 681, 3) := by decide +kernel
theorem dX12_isNote_74 : decode cX12_isNote 74 = .ok (.iload 4, 2) := by decide +kernel
theorem dX12_isNote_76 : decode cX12_isNote 76 = .ok (.iaload, 1) := by decide +kernel
theorem dX12_isNote_77 : decode cX12_isNote 77 = .ok (.invokestatic 119, 3) := by decide +kernel
theorem dX12_isNote_80 : decode cX12_isNote 80 = .ok (.if_icmp .ne 7, 3) := by decide +kernel
theorem dX12_isNote_87 : decode cX12_isNote 87 = .ok (.iconst 0, 1) := by decide +kernel
theorem dX12_isNote_88 : decode cX12_isNote 88 = .ok (.istore_n 3, 1) := by decide +kernel
theorem dX12_isNote_89 : decode cX12_isNote 89 = .ok (.iinc 4 1, 3) := by decide +kernel
theorem dX12_isNote_92 : decode cX12_isNote 92 = .ok (.goto (-50), 3) := by decide +kernel
theorem dX12_isNote_83 : decode cX12_isNote 83 = .ok (.iconst 1, 1) := by decide +kernel
theorem dX12_isNote_84 : decode cX12_isNote 84 = .ok (.goto 4, 3) := by decide +kernel
theorem dX12_isNote_0 : decode cX12_isNote 0 = .ok (.aload_n 0, 1) := by decide +kernel
theorem kX12_handleString : h_ml mX12_handleString 0 := ⟨h_t10 91 rfl rfl, h_t1 16 rfl rfl, ⟨by decide, by decide, by decide +kernel⟩, by decide⟩
theorem lX12_842 : Cond.methodLink RX12 842 mX12_handleString.1 ∈ lw_g := h_t10 88 rfl rfl
theorem sX12_handleString : Cond.instanceMethod mX12_handleString.1 ∈ lw_g ∧ Cond.selects mX12_handleString.1.cls mX12_handleString.1 mX12_handleString.1 ∈ lw_g := ⟨h_t10 90 rfl rfl, h_ins 217 rfl⟩
theorem dX12_isNote_1 : decode cX12_isNote 1 = .ok (.invokevirtual 842, 3) := by decide +kernel
theorem dX12_isNote_4 : decode cX12_isNote 4 = .ok (.istore_n 2, 1) := by decide +kernel
theorem dX12_isNote_5 : decode cX12_isNote 5 = .ok (.aload_n 0, 1) := by decide +kernel
theorem dX12_isNote_6 : decode cX12_isNote 6 = .ok (.getfield 845, 3) := by decide +kernel
theorem dX12_isNote_9 : decode cX12_isNote 9 = .ok (.iload_n 1, 1) := by decide +kernel
theorem dX12_isNote_10 : decode cX12_isNote 10 = .ok (.iaload, 1) := by decide +kernel
theorem dX12_isNote_11 : decode cX12_isNote 11 = .ok (.aload_n 0, 1) := by decide +kernel
theorem dX12_isNote_12 : decode cX12_isNote 12 = .ok (.getfield 678, 3) := by decide +kernel
theorem dX12_isNote_15 : decode cX12_isNote 15 = .ok (.if_icmp .ne 22, 3) := by decide +kernel
theorem dX12_isNote_37 : decode cX12_isNote 37 = .ok (.iconst 0, 1) := by decide +kernel
theorem dX12_isNote_38 : decode cX12_isNote 38 = .ok (.istore_n 3, 1) := by decide +kernel
theorem dX12_isNote_39 : decode cX12_isNote 39 = .ok (.iconst 0, 1) := by decide +kernel
theorem dX12_isNote_40 : decode cX12_isNote 40 = .ok (.istore 4, 2) := by decide +kernel
theorem dX12_isNote_18 : decode cX12_isNote 18 = .ok (.aload_n 0, 1) := by decide +kernel
theorem dX12_isNote_19 : decode cX12_isNote 19 = .ok (.getfield 848, 3) := by decide +kernel
theorem dX12_isNote_22 : decode cX12_isNote 22 = .ok (.iload_n 1, 1) := by decide +kernel
theorem dX12_isNote_23 : decode cX12_isNote 23 = .ok (.iaload, 1) := by decide +kernel
theorem dX12_isNote_24 : decode cX12_isNote 24 = .ok (.aload_n 0, 1) := by decide +kernel
theorem dX12_isNote_25 : decode cX12_isNote 25 = .ok (.getfield 346, 3) := by decide +kernel
theorem dX12_isNote_28 : decode cX12_isNote 28 = .ok (.iload_n 2, 1) := by decide +kernel
theorem dX12_isNote_29 : decode cX12_isNote 29 = .ok (.iaload, 1) := by decide +kernel
theorem dX12_isNote_30 : decode cX12_isNote 30 = .ok (.if_icmp .ne 7, 3) := by decide +kernel
theorem dX12_isNote_33 : decode cX12_isNote 33 = .ok (.iconst 1, 1) := by decide +kernel
theorem dX12_isNote_34 : decode cX12_isNote 34 = .ok (.goto 4, 3) := by decide +kernel
def fb_X12_isNote_98 (K98 : Int32 → Int32 → Bool → Int32 → uS → Option Bool) (x1 : Int32) (x2 : Int32) (b3 : Bool) (x4 : Int32) (s : uS) : Option Bool := if b3 = true then ((iget 20 s 1117 x2).bind fun v2 => if v2 ≤ x4 then (some b3) else ((fn_X12_handleAt x1 x4 s).bind fun v5 => (iget 20 s 1116 x2).bind fun v7 => (iget 20 s 1097 (v7 + x4)).bind fun v9 => if v5 = v9 then (K98 x1 x2 true (x4 + 1) s) else (K98 x1 x2 false (x4 + 1) s))) else (some b3)
set_option maxRecDepth 100000 in
set_option maxHeartbeats 4000000 in
theorem xb_X12_isNote_98 {l : Launch} {D : va_G} {A : Nat → ClassId} {B : Nat} {Z : State → Heap → Prop} {vF : Value} (uk : uK B Z vF) {K98 : Int32 → Int32 → Bool → Int32 → uS → Option Bool} (hK98 : ∀ (x1 : Int32) (x2 : Int32) (b3 : Bool) (x4 : Int32)  (s : uS) (r : Bool), K98 x1 x2 b3 x4 s = some r → GU l D A B Z mX12_isNote 1 (s, some (.int (bI r))) s 98 [(0, .ref (B + 1079)), (1, .int x1), (2, .int x2), (3, .int (bI b3)), (4, .int x4)] []) {x1 : Int32} {x2 : Int32} {b3 : Bool} {x4 : Int32} {s : uS} {r : Bool}  (h : fb_X12_isNote_98 K98 x1 x2 b3 x4 s = some r) : GU l D A B Z mX12_isNote 1 (s, some (.int (bI r))) s 98 [(0, .ref (B + 1079)), (1, .int x1), (2, .int x2), (3, .int (bI b3)), (4, .int x4)] [] := by
  unfold fb_X12_isNote_98 at h
  refine uu_iload_n dX12_isNote_98 rfl (List.mem_of_getElem? (i := 3) rfl) ?_
  refine uu_ifb_eq (tgt := 149) dX12_isNote_99 (by decide) (fun c1 => ?_) (fun c1 => ?_)
  · replace h := uu_neg c1 h
    refine uu_iload_n dX12_isNote_149 rfl (List.mem_of_getElem? (i := 3) rfl) ?_
    have hr := Option.some.inj h
    subst hr
    exact uu_zret (x := bI b3) rfl (bI_z _) dX12_isNote_150
  · replace h := uu_pos c1 h
    refine uu_iload dX12_isNote_102 (List.mem_of_getElem? (i := 4) rfl) ?_
    refine uu_aload_n dX12_isNote_104 rfl (List.mem_of_getElem? (i := 0) rfl) ?_
    refine uu_geta (ci := 12) (N := 153) fX12_346 (by decide) so_1079.is (by decide) (c := 1117) (by decide) dX12_isNote_105 ?_
    refine uu_iload_n dX12_isNote_108 rfl (List.mem_of_getElem? (i := 2) rfl) ?_
    obtain ⟨v2, e3, h⟩ := uu_ob h
    refine uu_iald e3 dX12_isNote_109 ?_
    refine uu_icmp_ge (tgt := 149) dX12_isNote_110 (by decide) (fun c4 => ?_) (fun c4 => ?_)
    · replace h := uu_pos c4 h
      refine uu_iload_n dX12_isNote_149 rfl (List.mem_of_getElem? (i := 3) rfl) ?_
      have hr := Option.some.inj h
      subst hr
      exact uu_zret (x := bI b3) rfl (bI_z _) dX12_isNote_150
    · replace h := uu_neg c4 h
      refine uu_aload_n dX12_isNote_113 rfl (List.mem_of_getElem? (i := 0) rfl) ?_
      refine uu_iload_n dX12_isNote_114 rfl (List.mem_of_getElem? (i := 1) rfl) ?_
      refine uu_iload dX12_isNote_115 (List.mem_of_getElem? (i := 4) rfl) ?_
      obtain ⟨v5, e6, h⟩ := uu_ob h
      refine uu_cv (d1 := 0) (k := 1079) (ci := 12) (T := TX12) (N := 153) (As := [.int x1, .int x4]) (st := []) (st' := [.int v5]) (xc_X12_handleAt uk  e6) so_1079.is (by decide) rfl kX12_handleAt lX12_854 sX12_handleAt (by decide) (Nat.le_of_ble_eq_true rfl) dX12_isNote_117 rfl ?_
      refine uu_aload_n dX12_isNote_120 rfl (List.mem_of_getElem? (i := 0) rfl) ?_
      refine uu_geta (ci := 12) (N := 153) fX12_260 (by decide) so_1079.is (by decide) (c := 1097) (by decide) dX12_isNote_121 ?_
      refine uu_aload_n dX12_isNote_124 rfl (List.mem_of_getElem? (i := 0) rfl) ?_
      refine uu_geta (ci := 12) (N := 153) fX12_343 (by decide) so_1079.is (by decide) (c := 1116) (by decide) dX12_isNote_125 ?_
      refine uu_iload_n dX12_isNote_128 rfl (List.mem_of_getElem? (i := 2) rfl) ?_
      obtain ⟨v7, e8, h⟩ := uu_ob h
      refine uu_iald e8 dX12_isNote_129 ?_
      refine uu_iload dX12_isNote_130 (List.mem_of_getElem? (i := 4) rfl) ?_
      refine uu_iadd dX12_isNote_132 ?_
      obtain ⟨v9, e10, h⟩ := uu_ob h
      refine uu_iald e10 dX12_isNote_133 ?_
      refine uu_icmp_ne (tgt := 141) dX12_isNote_134 (by decide) (fun c11 => ?_) (fun c11 => ?_)
      · replace h := uu_neg c11 h
        refine uu_iconst (v := 0) dX12_isNote_141 (by decide) ?_
        refine uu_istore_n dX12_isNote_142 rfl (by decide) rfl ?_
        refine uu_iinc (v := x4 + 1) dX12_isNote_143 (k := 4) rfl rfl (by decide) rfl ?_
        refine uu_goto (tgt := 98) dX12_isNote_146 (by decide) ?_
        refine uu_lv [2, 3, 4, 1, 0] (lv' := [(0, .ref (B + 1079)), (1, .int x1), (2, .int x2), (3, .int 0), (4, .int (x4 + 1))]) rfl ?_
        exact hK98 x1 x2 false (x4 + 1) _ _ h
      · replace h := uu_pos c11 h
        refine uu_iconst (v := 1) dX12_isNote_137 (by decide) ?_
        refine uu_goto (tgt := 142) dX12_isNote_138 (by decide) ?_
        refine uu_istore_n dX12_isNote_142 rfl (by decide) rfl ?_
        refine uu_iinc (v := x4 + 1) dX12_isNote_143 (k := 4) rfl rfl (by decide) rfl ?_
        refine uu_goto (tgt := 98) dX12_isNote_146 (by decide) ?_
        refine uu_lv [2, 3, 4, 1, 0] (lv' := [(0, .ref (B + 1079)), (1, .int x1), (2, .int x2), (3, .int 1), (4, .int (x4 + 1))]) rfl ?_
        exact hK98 x1 x2 true (x4 + 1) _ _ h
def fn_X12_isNote_98  : Nat → Int32 → Int32 → Bool → Int32 → uS → Option Bool
  | 0 => fun _ _ _ _ _ => none
  | n + 1 => fb_X12_isNote_98 (fn_X12_isNote_98  n)
set_option maxRecDepth 100000 in
set_option maxHeartbeats 4000000 in
theorem xn_X12_isNote_98 {l : Launch} {D : va_G} {A : Nat → ClassId} {B : Nat} {Z : State → Heap → Prop} {vF : Value} (uk : uK B Z vF)   : ∀ (n : Nat) (x1 : Int32) (x2 : Int32) (b3 : Bool) (x4 : Int32)  (s : uS) (r : Bool), fn_X12_isNote_98  n x1 x2 b3 x4 s = some r → GU l D A B Z mX12_isNote 1 (s, some (.int (bI r))) s 98 [(0, .ref (B + 1079)), (1, .int x1), (2, .int x2), (3, .int (bI b3)), (4, .int x4)] [] := by
  intro n
  induction n with
  | zero => intro x1 x2 b3 x4 s r h
            cases h
  | succ n ih => intro x1 x2 b3 x4 s r h
                 exact xb_X12_isNote_98 uk ih  h
def fb_X12_isNote_42 (K42 : Int32 → Int32 → Bool → Int32 → uS → Option Bool) (x1 : Int32) (x2 : Int32) (b3 : Bool) (x4 : Int32) (s : uS) : Option Bool := if (s.I 1079 93) ≤ x4 then (fn_X12_isNote_98 uFu x1 x2 b3 0 s) else (if b3 = true then ((iget 20 s 1131 (((101 : Int32) * x1) + x4)).bind fun v3 => (fn_X12_low v3 s).bind fun v5 => (iget 20 s 1137 x4).bind fun v7 => (fn_X12_low v7 s).bind fun v9 => if v5 = v9 then (K42 x1 x2 true (x4 + 1) s) else (K42 x1 x2 false (x4 + 1) s)) else (fn_X12_isNote_98 uFu x1 x2 b3 0 s))
set_option maxRecDepth 100000 in
set_option maxHeartbeats 4000000 in
theorem xb_X12_isNote_42 {l : Launch} {D : va_G} {A : Nat → ClassId} {B : Nat} {Z : State → Heap → Prop} {vF : Value} (uk : uK B Z vF) {K42 : Int32 → Int32 → Bool → Int32 → uS → Option Bool} (hK42 : ∀ (x1 : Int32) (x2 : Int32) (b3 : Bool) (x4 : Int32)  (s : uS) (r : Bool), K42 x1 x2 b3 x4 s = some r → GU l D A B Z mX12_isNote 1 (s, some (.int (bI r))) s 42 [(0, .ref (B + 1079)), (1, .int x1), (2, .int x2), (3, .int (bI b3)), (4, .int x4)] []) {x1 : Int32} {x2 : Int32} {b3 : Bool} {x4 : Int32} {s : uS} {r : Bool}  (h : fb_X12_isNote_42 K42 x1 x2 b3 x4 s = some r) : GU l D A B Z mX12_isNote 1 (s, some (.int (bI r))) s 42 [(0, .ref (B + 1079)), (1, .int x1), (2, .int x2), (3, .int (bI b3)), (4, .int x4)] [] := by
  unfold fb_X12_isNote_42 at h
  refine uu_iload dX12_isNote_42 (List.mem_of_getElem? (i := 4) rfl) ?_
  refine uu_aload_n dX12_isNote_44 rfl (List.mem_of_getElem? (i := 0) rfl) ?_
  refine uu_geti (ci := 12) (N := 153) fX12_678 (by decide) so_1079.is (by decide) (by decide) dX12_isNote_45 ?_
  refine uu_icmp_ge (tgt := 95) dX12_isNote_48 (by decide) (fun c1 => ?_) (fun c1 => ?_)
  · replace h := uu_pos c1 h
    refine uu_iconst (v := 0) dX12_isNote_95 (by decide) ?_
    refine uu_istore dX12_isNote_96 (by decide) rfl ?_
    refine uu_lv [1, 2, 3, 4, 0] (lv' := [(0, .ref (B + 1079)), (1, .int x1), (2, .int x2), (3, .int (bI b3)), (4, .int 0)]) rfl ?_
    exact xn_X12_isNote_98 uk  _ _ _ _ _ _ _ h
  · replace h := uu_neg c1 h
    refine uu_iload_n dX12_isNote_51 rfl (List.mem_of_getElem? (i := 3) rfl) ?_
    refine uu_ifb_eq (tgt := 95) dX12_isNote_52 (by decide) (fun c2 => ?_) (fun c2 => ?_)
    · replace h := uu_neg c2 h
      refine uu_iconst (v := 0) dX12_isNote_95 (by decide) ?_
      refine uu_istore dX12_isNote_96 (by decide) rfl ?_
      refine uu_lv [1, 2, 3, 4, 0] (lv' := [(0, .ref (B + 1079)), (1, .int x1), (2, .int x2), (3, .int (bI b3)), (4, .int 0)]) rfl ?_
      exact xn_X12_isNote_98 uk  _ _ _ _ _ _ _ h
    · replace h := uu_pos c2 h
      refine uu_aload_n dX12_isNote_55 rfl (List.mem_of_getElem? (i := 0) rfl) ?_
      refine uu_geta (ci := 12) (N := 153) fX12_851 (by decide) so_1079.is (by decide) (c := 1131) (by decide) dX12_isNote_56 ?_
      refine uu_bipush (v := 101) dX12_isNote_59 (by decide) ?_
      refine uu_iload_n dX12_isNote_61 rfl (List.mem_of_getElem? (i := 1) rfl) ?_
      refine uu_imul dX12_isNote_62 ?_
      refine uu_iload dX12_isNote_63 (List.mem_of_getElem? (i := 4) rfl) ?_
      refine uu_iadd dX12_isNote_65 ?_
      obtain ⟨v3, e4, h⟩ := uu_ob h
      refine uu_iald e4 dX12_isNote_66 ?_
      obtain ⟨v5, e6, h⟩ := uu_ob h
      refine uu_cs (d1 := 0) (As := [.int v3]) (st := []) (st' := [.int v5]) (xc_X12_low uk  e6) kX12_low lX12_119 sX12_low (by decide) (Nat.le_of_ble_eq_true rfl) dX12_isNote_67 rfl ?_
      refine uu_aload_n dX12_isNote_70 rfl (List.mem_of_getElem? (i := 0) rfl) ?_
      refine uu_geta (ci := 12) (N := 153) fX12_681 (by decide) so_1079.is (by decide) (c := 1137) (by decide) dX12_isNote_71 ?_
      refine uu_iload dX12_isNote_74 (List.mem_of_getElem? (i := 4) rfl) ?_
      obtain ⟨v7, e8, h⟩ := uu_ob h
      refine uu_iald e8 dX12_isNote_76 ?_
      obtain ⟨v9, e10, h⟩ := uu_ob h
      refine uu_cs (d1 := 0) (As := [.int v7]) (st := [.int v5]) (st' := [.int v9, .int v5]) (xc_X12_low uk  e10) kX12_low lX12_119 sX12_low (by decide) (Nat.le_of_ble_eq_true rfl) dX12_isNote_77 rfl ?_
      refine uu_icmp_ne (tgt := 87) dX12_isNote_80 (by decide) (fun c11 => ?_) (fun c11 => ?_)
      · replace h := uu_neg c11 h
        refine uu_iconst (v := 0) dX12_isNote_87 (by decide) ?_
        refine uu_istore_n dX12_isNote_88 rfl (by decide) rfl ?_
        refine uu_iinc (v := x4 + 1) dX12_isNote_89 (k := 4) rfl rfl (by decide) rfl ?_
        refine uu_goto (tgt := 42) dX12_isNote_92 (by decide) ?_
        refine uu_lv [2, 3, 4, 1, 0] (lv' := [(0, .ref (B + 1079)), (1, .int x1), (2, .int x2), (3, .int 0), (4, .int (x4 + 1))]) rfl ?_
        exact hK42 x1 x2 false (x4 + 1) _ _ h
      · replace h := uu_pos c11 h
        refine uu_iconst (v := 1) dX12_isNote_83 (by decide) ?_
        refine uu_goto (tgt := 88) dX12_isNote_84 (by decide) ?_
        refine uu_istore_n dX12_isNote_88 rfl (by decide) rfl ?_
        refine uu_iinc (v := x4 + 1) dX12_isNote_89 (k := 4) rfl rfl (by decide) rfl ?_
        refine uu_goto (tgt := 42) dX12_isNote_92 (by decide) ?_
        refine uu_lv [2, 3, 4, 1, 0] (lv' := [(0, .ref (B + 1079)), (1, .int x1), (2, .int x2), (3, .int 1), (4, .int (x4 + 1))]) rfl ?_
        exact hK42 x1 x2 true (x4 + 1) _ _ h
def fn_X12_isNote_42  : Nat → Int32 → Int32 → Bool → Int32 → uS → Option Bool
  | 0 => fun _ _ _ _ _ => none
  | n + 1 => fb_X12_isNote_42 (fn_X12_isNote_42  n)
set_option maxRecDepth 100000 in
set_option maxHeartbeats 4000000 in
theorem xn_X12_isNote_42 {l : Launch} {D : va_G} {A : Nat → ClassId} {B : Nat} {Z : State → Heap → Prop} {vF : Value} (uk : uK B Z vF)   : ∀ (n : Nat) (x1 : Int32) (x2 : Int32) (b3 : Bool) (x4 : Int32)  (s : uS) (r : Bool), fn_X12_isNote_42  n x1 x2 b3 x4 s = some r → GU l D A B Z mX12_isNote 1 (s, some (.int (bI r))) s 42 [(0, .ref (B + 1079)), (1, .int x1), (2, .int x2), (3, .int (bI b3)), (4, .int x4)] [] := by
  intro n
  induction n with
  | zero => intro x1 x2 b3 x4 s r h
            cases h
  | succ n ih => intro x1 x2 b3 x4 s r h
                 exact xb_X12_isNote_42 uk ih  h
def fn_X12_isNote (x1 : Int32) (s : uS) : Option Bool := (fn_X12_handleString s).bind fun v1 => (iget 20 s 1132 x1).bind fun v3 => if v3 = (s.I 1079 93) then ((iget 20 s 1135 x1).bind fun v6 => (iget 20 s 1117 v1).bind fun v8 => if v6 = v8 then (fn_X12_isNote_42 uFu x1 v1 true 0 s) else (fn_X12_isNote_42 uFu x1 v1 false 0 s)) else (fn_X12_isNote_42 uFu x1 v1 false 0 s)
set_option maxRecDepth 100000 in
set_option maxHeartbeats 4000000 in
theorem xc_X12_isNote {l : Launch} {D : va_G} {A : Nat → ClassId} {B : Nat} {Z : State → Heap → Prop} {vF : Value} (uk : uK B Z vF) {x1 : Int32} {s : uS} {r : Bool}  (h : fn_X12_isNote x1 s = some r) : CU l D A B Z 1 mX12_isNote s [.ref (B + 1079), .int x1] (s, some (.int (bI r))) := by
  unfold fn_X12_isNote at h
  refine cu_of rfl uk.1.1 (Nat.le_of_ble_eq_true rfl) ?_
  show GU _ _ _ _ _ _ _ _ _ 0 [(0, .ref (B + 1079)), (1, .int x1)] []
  refine uu_aload_n dX12_isNote_0 rfl (List.mem_of_getElem? (i := 0) rfl) ?_
  obtain ⟨v1, e2, h⟩ := uu_ob h
  refine uu_cv (d1 := 0) (k := 1079) (ci := 12) (T := TX12) (N := 153) (As := []) (st := []) (st' := [.int v1]) (xc_X12_handleString uk  e2) so_1079.is (by decide) rfl kX12_handleString lX12_842 sX12_handleString (by decide) (Nat.le_of_ble_eq_true rfl) dX12_isNote_1 rfl ?_
  refine uu_istore_n dX12_isNote_4 rfl (by decide) rfl ?_
  refine uu_aload_n dX12_isNote_5 rfl (List.mem_of_getElem? (i := 1) rfl) ?_
  refine uu_geta (ci := 12) (N := 153) fX12_845 (by decide) so_1079.is (by decide) (c := 1132) (by decide) dX12_isNote_6 ?_
  refine uu_iload_n dX12_isNote_9 rfl (List.mem_of_getElem? (i := 2) rfl) ?_
  obtain ⟨v3, e4, h⟩ := uu_ob h
  refine uu_iald e4 dX12_isNote_10 ?_
  refine uu_aload_n dX12_isNote_11 rfl (List.mem_of_getElem? (i := 1) rfl) ?_
  refine uu_geti (ci := 12) (N := 153) fX12_678 (by decide) so_1079.is (by decide) (by decide) dX12_isNote_12 ?_
  refine uu_icmp_ne (tgt := 37) dX12_isNote_15 (by decide) (fun c5 => ?_) (fun c5 => ?_)
  · replace h := uu_neg c5 h
    refine uu_iconst (v := 0) dX12_isNote_37 (by decide) ?_
    refine uu_istore_n dX12_isNote_38 rfl (by decide) rfl ?_
    refine uu_iconst (v := 0) dX12_isNote_39 (by decide) ?_
    refine uu_istore dX12_isNote_40 (by decide) rfl ?_
    refine uu_lv [3, 4, 2, 1, 0] (lv' := [(0, .ref (B + 1079)), (1, .int x1), (2, .int v1), (3, .int 0), (4, .int 0)]) rfl ?_
    exact xn_X12_isNote_42 uk  _ _ _ _ _ _ _ h
  · replace h := uu_pos c5 h
    refine uu_aload_n dX12_isNote_18 rfl (List.mem_of_getElem? (i := 1) rfl) ?_
    refine uu_geta (ci := 12) (N := 153) fX12_848 (by decide) so_1079.is (by decide) (c := 1135) (by decide) dX12_isNote_19 ?_
    refine uu_iload_n dX12_isNote_22 rfl (List.mem_of_getElem? (i := 2) rfl) ?_
    obtain ⟨v6, e7, h⟩ := uu_ob h
    refine uu_iald e7 dX12_isNote_23 ?_
    refine uu_aload_n dX12_isNote_24 rfl (List.mem_of_getElem? (i := 1) rfl) ?_
    refine uu_geta (ci := 12) (N := 153) fX12_346 (by decide) so_1079.is (by decide) (c := 1117) (by decide) dX12_isNote_25 ?_
    refine uu_iload_n dX12_isNote_28 rfl (List.mem_of_getElem? (i := 0) rfl) ?_
    obtain ⟨v8, e9, h⟩ := uu_ob h
    refine uu_iald e9 dX12_isNote_29 ?_
    refine uu_icmp_ne (tgt := 37) dX12_isNote_30 (by decide) (fun c10 => ?_) (fun c10 => ?_)
    · replace h := uu_neg c10 h
      refine uu_iconst (v := 0) dX12_isNote_37 (by decide) ?_
      refine uu_istore_n dX12_isNote_38 rfl (by decide) rfl ?_
      refine uu_iconst (v := 0) dX12_isNote_39 (by decide) ?_
      refine uu_istore dX12_isNote_40 (by decide) rfl ?_
      refine uu_lv [3, 4, 2, 1, 0] (lv' := [(0, .ref (B + 1079)), (1, .int x1), (2, .int v1), (3, .int 0), (4, .int 0)]) rfl ?_
      exact xn_X12_isNote_42 uk  _ _ _ _ _ _ _ h
    · replace h := uu_pos c10 h
      refine uu_iconst (v := 1) dX12_isNote_33 (by decide) ?_
      refine uu_goto (tgt := 38) dX12_isNote_34 (by decide) ?_
      refine uu_istore_n dX12_isNote_38 rfl (by decide) rfl ?_
      refine uu_iconst (v := 0) dX12_isNote_39 (by decide) ?_
      refine uu_istore dX12_isNote_40 (by decide) rfl ?_
      refine uu_lv [3, 4, 2, 1, 0] (lv' := [(0, .ref (B + 1079)), (1, .int x1), (2, .int v1), (3, .int 1), (4, .int 0)]) rfl ?_
      exact xn_X12_isNote_42 uk  _ _ _ _ _ _ _ h
