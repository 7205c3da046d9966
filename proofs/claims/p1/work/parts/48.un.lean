abbrev mX12_node : hM := (yX12_node, cX12_node, 3, (some (.int)))
theorem dX12_node_20 : decode cX12_node 20 = .ok (.istore_n 2, 1) := by decide +kernel
theorem dX12_node_21 : decode cX12_node 21 = .ok (.aload_n 0, 1) := by decide +kernel
theorem dX12_node_22 : decode cX12_node 22 = .ok (.iload_n 2, 1) := by decide +kernel
theorem dX12_node_23 : decode cX12_node 23 = .ok (.iconst 1, 1) := by decide +kernel
theorem dX12_node_24 : decode cX12_node 24 = .ok (.iadd, 1) := by decide +kernel
theorem fX12_282 : h_fl RX12 282 12 41 RX12 TX12 153 := ⟨rfl, by decide, inX12, h_t12 2 rfl rfl⟩
theorem dX12_node_25 : decode cX12_node 25 = .ok (.putfield 282, 3) := by decide +kernel
theorem dX12_node_28 : decode cX12_node 28 = .ok (.aload_n 0, 1) := by decide +kernel
theorem dX12_node_29 : decode cX12_node 29 = .ok (.getfield 285, 3) := by decide +kernel
theorem dX12_node_32 : decode cX12_node 32 = .ok (.iload_n 2, 1) := by decide +kernel
theorem dX12_node_33 : decode cX12_node 33 = .ok (.iload_n 1, 1) := by decide +kernel
theorem dX12_node_34 : decode cX12_node 34 = .ok (.iastore, 1) := by decide +kernel
theorem dX12_node_35 : decode cX12_node 35 = .ok (.aload_n 0, 1) := by decide +kernel
theorem dX12_node_36 : decode cX12_node 36 = .ok (.getfield 288, 3) := by decide +kernel
theorem dX12_node_39 : decode cX12_node 39 = .ok (.iload_n 2, 1) := by decide +kernel
theorem dX12_node_40 : decode cX12_node 40 = .ok (.iconst (-1), 1) := by decide +kernel
theorem dX12_node_41 : decode cX12_node 41 = .ok (.iastore, 1) := by decide +kernel
theorem dX12_node_42 : decode cX12_node 42 = .ok (.aload_n 0, 1) := by decide +kernel
theorem dX12_node_43 : decode cX12_node 43 = .ok (.getfield 291, 3) := by decide +kernel
theorem dX12_node_46 : decode cX12_node 46 = .ok (.iload_n 2, 1) := by decide +kernel
theorem dX12_node_47 : decode cX12_node 47 = .ok (.iconst (-1), 1) := by decide +kernel
theorem dX12_node_48 : decode cX12_node 48 = .ok (.iastore, 1) := by decide +kernel
theorem dX12_node_49 : decode cX12_node 49 = .ok (.aload_n 0, 1) := by decide +kernel
theorem dX12_node_50 : decode cX12_node 50 = .ok (.getfield 294, 3) := by decide +kernel
theorem dX12_node_53 : decode cX12_node 53 = .ok (.iload_n 2, 1) := by decide +kernel
theorem dX12_node_54 : decode cX12_node 54 = .ok (.iconst (-1), 1) := by decide +kernel
theorem dX12_node_55 : decode cX12_node 55 = .ok (.iastore, 1) := by decide +kernel
theorem dX12_node_56 : decode cX12_node 56 = .ok (.aload_n 0, 1) := by decide +kernel
theorem dX12_node_57 : decode cX12_node 57 = .ok (.getfield 297, 3) := by decide +kernel
theorem dX12_node_60 : decode cX12_node 60 = .ok (.iload_n 2, 1) := by decide +kernel
theorem dX12_node_61 : decode cX12_node 61 = .ok (.iconst 0, 1) := by decide +kernel
theorem dX12_node_62 : decode cX12_node 62 = .ok (.iastore, 1) := by decide +kernel
theorem dX12_node_63 : decode cX12_node 63 = .ok (.aload_n 0, 1) := by decide +kernel
theorem dX12_node_64 : decode cX12_node 64 = .ok (.getfield 300, 3) := by decide +kernel
theorem dX12_node_67 : decode cX12_node 67 = .ok (.iload_n 2, 1) := by decide +kernel
theorem dX12_node_68 : decode cX12_node 68 = .ok (.iconst 0, 1) := by decide +kernel
theorem dX12_node_69 : decode cX12_node 69 = .ok (.iastore, 1) := by decide +kernel
theorem dX12_node_70 : decode cX12_node 70 = .ok (.aload_n 0, 1) := by decide +kernel
theorem dX12_node_71 : decode cX12_node 71 = .ok (.getfield 303, 3) := by decide +kernel
theorem dX12_node_74 : decode cX12_node 74 = .ok (.iload_n 2, 1) := by decide +kernel
theorem dX12_node_75 : decode cX12_node 75 = .ok (.iconst (-1), 1) := by decide +kernel
theorem dX12_node_76 : decode cX12_node 76 = .ok (.iastore, 1) := by decide +kernel
theorem dX12_node_77 : decode cX12_node 77 = .ok (.aload_n 0, 1) := by decide +kernel
theorem dX12_node_78 : decode cX12_node 78 = .ok (.getfield 306, 3) := by decide +kernel
theorem dX12_node_81 : decode cX12_node 81 = .ok (.iload_n 2, 1) := by decide +kernel
theorem dX12_node_82 : decode cX12_node 82 = .ok (.iconst 0, 1) := by decide +kernel
theorem dX12_node_83 : decode cX12_node 83 = .ok (.bastore, 1) := by decide +kernel
theorem dX12_node_84 : decode cX12_node 84 = .ok (.aload_n 0, 1) := by decide +kernel
theorem dX12_node_85 : decode cX12_node 85 = .ok (.getfield 310, 3) := by decide +kernel
theorem dX12_node_88 : decode cX12_node 88 = .ok (.iload_n 2, 1) := by decide +kernel
theorem dX12_node_89 : decode cX12_node 89 = .ok (.iconst (-1), 1) := by decide +kernel
theorem dX12_node_90 : decode cX12_node 90 = .ok (.iastore, 1) := by decide +kernel
theorem dX12_node_91 : decode cX12_node 91 = .ok (.aload_n 0, 1) := by decide +kernel
theorem dX12_node_92 : decode cX12_node 92 = .ok (.getfield 313, 3) := by decide +kernel
theorem dX12_node_95 : decode cX12_node 95 = .ok (.iload_n 2, 1) := by decide +kernel
theorem dX12_node_96 : decode cX12_node 96 = .ok (.iconst 0, 1) := by decide +kernel
theorem dX12_node_97 : decode cX12_node 97 = .ok (.iastore, 1) := by decide +kernel
theorem dX12_node_98 : decode cX12_node 98 = .ok (.aload_n 0, 1) := by decide +kernel
theorem dX12_node_99 : decode cX12_node 99 = .ok (.getfield 316, 3) := by decide +kernel
theorem dX12_node_102 : decode cX12_node 102 = .ok (.iload_n 2, 1) := by decide +kernel
theorem dX12_node_103 : decode cX12_node 103 = .ok (.iconst (-1), 1) := by decide +kernel
theorem dX12_node_104 : decode cX12_node 104 = .ok (.iastore, 1) := by decide +kernel
theorem dX12_node_105 : decode cX12_node 105 = .ok (.aload_n 0, 1) := by decide +kernel
theorem dX12_node_106 : decode cX12_node 106 = .ok (.getfield 319, 3) := by decide +kernel
theorem dX12_node_109 : decode cX12_node 109 = .ok (.iload_n 2, 1) := by decide +kernel
theorem dX12_node_110 : decode cX12_node 110 = .ok (.iconst (-1), 1) := by decide +kernel
theorem dX12_node_111 : decode cX12_node 111 = .ok (.iastore, 1) := by decide +kernel
theorem dX12_node_112 : decode cX12_node 112 = .ok (.aload_n 0, 1) := by decide +kernel
theorem dX12_node_113 : decode cX12_node 113 = .ok (.getfield 322, 3) := by decide +kernel
theorem dX12_node_116 : decode cX12_node 116 = .ok (.iload_n 2, 1) := by decide +kernel
theorem dX12_node_117 : decode cX12_node 117 = .ok (.iconst 0, 1) := by decide +kernel
theorem dX12_node_118 : decode cX12_node 118 = .ok (.iastore, 1) := by decide +kernel
theorem dX12_node_119 : decode cX12_node 119 = .ok (.aload_n 0, 1) := by decide +kernel
theorem dX12_node_120 : decode cX12_node 120 = .ok (.getfield 325, 3) := by decide +kernel
theorem dX12_node_123 : decode cX12_node 123 = .ok (.iload_n 2, 1) := by decide +kernel
theorem dX12_node_124 : decode cX12_node 124 = .ok (.iconst (-1), 1) := by decide +kernel
theorem dX12_node_125 : decode cX12_node 125 = .ok (.iastore, 1) := by decide +kernel
theorem dX12_node_126 : decode cX12_node 126 = .ok (.aload_n 0, 1) := by decide +kernel
theorem dX12_node_127 : decode cX12_node 127 = .ok (.getfield 328, 3) := by decide +kernel
theorem dX12_node_130 : decode cX12_node 130 = .ok (.iload_n 2, 1) := by decide +kernel
theorem dX12_node_131 : decode cX12_node 131 = .ok (.iconst (-1), 1) := by decide +kernel
theorem dX12_node_132 : decode cX12_node 132 = .ok (.iastore, 1) := by decide +kernel
theorem dX12_node_133 : decode cX12_node 133 = .ok (.iload_n 2, 1) := by decide +kernel
theorem dX12_node_134 : decode cX12_node 134 = .ok (.ireturn, 1) := by decide +kernel
theorem dX12_node_0 : decode cX12_node 0 = .ok (.aload_n 0, 1) := by decide +kernel
theorem dX12_node_1 : decode cX12_node 1 = .ok (.getfield 282, 3) := by decide +kernel
theorem dX12_node_4 : decode cX12_node 4 = .ok (.sipush 519, 3) := by decide +kernel
theorem dX12_node_7 : decode cX12_node 7 = .ok (.if_icmp .ge 10, 3) := by decide +kernel
theorem dX12_node_17 : decode cX12_node 17 = .ok (.sipush 519, 3) := by decide +kernel
theorem dX12_node_10 : decode cX12_node 10 = .ok (.aload_n 0, 1) := by decide +kernel
theorem dX12_node_11 : decode cX12_node 11 = .ok (.getfield 282, 3) := by decide +kernel
theorem dX12_node_14 : decode cX12_node 14 = .ok (.goto 6, 3) := by decide +kernel
def fb_X12_node_20  (x1 : Int32) (xs0 : Int32) (s : uS) : Option (uS × Int32) := (iput 20 (wI s 1079 41 (xs0 + 1)) 1098 xs0 x1).bind fun s1 => (iput 20 s1 1099 xs0 (-1)).bind fun s3 => (iput 20 s3 1100 xs0 (-1)).bind fun s5 => (iput 20 s5 1101 xs0 (-1)).bind fun s7 => (iput 20 s7 1103 xs0 0).bind fun s9 => (iput 20 s9 1105 xs0 0).bind fun s11 => (iput 20 s11 1106 xs0 (-1)).bind fun s13 => (iput 22 s13 1108 xs0 0).bind fun s15 => (iput 20 s15 1109 xs0 (-1)).bind fun s17 => (iput 20 s17 1110 xs0 0).bind fun s19 => (iput 20 s19 1111 xs0 (-1)).bind fun s21 => (iput 20 s21 1112 xs0 (-1)).bind fun s23 => (iput 20 s23 1113 xs0 0).bind fun s25 => (iput 20 s25 1114 xs0 (-1)).bind fun s27 => (iput 20 s27 1115 xs0 (-1)).bind fun s29 => some (s29, xs0)
set_option maxRecDepth 100000 in
set_option maxHeartbeats 4000000 in
theorem xb_X12_node_20 {l : Launch} {D : va_G} {A : Nat → ClassId} {B : Nat} {Z : State → Heap → Prop} {vF : Value} (uk : uK B Z vF)   {x1 : Int32} {xs0 : Int32} {s : uS} {r : (uS × Int32)}  (h : fb_X12_node_20  x1 xs0 s = some r) : GU l D A B Z mX12_node 0 (r.1, some (.int r.2)) s 20 [(0, .ref (B + 1079)), (1, .int x1)] [.int xs0] := by
  unfold fb_X12_node_20 at h
  refine uu_istore_n dX12_node_20 rfl (by decide) rfl ?_
  refine uu_aload_n dX12_node_21 rfl (List.mem_of_getElem? (i := 1) rfl) ?_
  refine uu_iload_n dX12_node_22 rfl (List.mem_of_getElem? (i := 0) rfl) ?_
  refine uu_iconst (v := 1) dX12_node_23 (by decide) ?_
  refine uu_iadd dX12_node_24 ?_
  refine uu_puti (ft := .int) (ci := 12) (N := 153) fX12_282 ptX12 (Or.inl rfl) (by decide) so_1079.is (by decide) (by decide) (by decide +kernel) rfl rfl dX12_node_25 ?_
  refine uu_aload_n dX12_node_28 rfl (List.mem_of_getElem? (i := 1) rfl) ?_
  refine uu_geta (ci := 12) (N := 153) fX12_285 (by decide) so_1079.is (by decide) (c := 1098) (by decide) dX12_node_29 ?_
  refine uu_iload_n dX12_node_32 rfl (List.mem_of_getElem? (i := 0) rfl) ?_
  refine uu_iload_n dX12_node_33 rfl (List.mem_of_getElem? (i := 2) rfl) ?_
  obtain ⟨s1, e2, h⟩ := uu_ob h
  refine uu_iast e2 dX12_node_34 ?_
  refine uu_aload_n dX12_node_35 rfl (List.mem_of_getElem? (i := 1) rfl) ?_
  refine uu_geta (ci := 12) (N := 153) fX12_288 (by decide) so_1079.is (by decide) (c := 1099) (by decide) dX12_node_36 ?_
  refine uu_iload_n dX12_node_39 rfl (List.mem_of_getElem? (i := 0) rfl) ?_
  refine uu_iconst (v := -1) dX12_node_40 (by decide) ?_
  obtain ⟨s3, e4, h⟩ := uu_ob h
  refine uu_iast e4 dX12_node_41 ?_
  refine uu_aload_n dX12_node_42 rfl (List.mem_of_getElem? (i := 1) rfl) ?_
  refine uu_geta (ci := 12) (N := 153) fX12_291 (by decide) so_1079.is (by decide) (c := 1100) (by decide) dX12_node_43 ?_
  refine uu_iload_n dX12_node_46 rfl (List.mem_of_getElem? (i := 0) rfl) ?_
  refine uu_iconst (v := -1) dX12_node_47 (by decide) ?_
  obtain ⟨s5, e6, h⟩ := uu_ob h
  refine uu_iast e6 dX12_node_48 ?_
  refine uu_aload_n dX12_node_49 rfl (List.mem_of_getElem? (i := 1) rfl) ?_
  refine uu_geta (ci := 12) (N := 153) fX12_294 (by decide) so_1079.is (by decide) (c := 1101) (by decide) dX12_node_50 ?_
  refine uu_iload_n dX12_node_53 rfl (List.mem_of_getElem? (i := 0) rfl) ?_
  refine uu_iconst (v := -1) dX12_node_54 (by decide) ?_
  obtain ⟨s7, e8, h⟩ := uu_ob h
  refine uu_iast e8 dX12_node_55 ?_
  refine uu_aload_n dX12_node_56 rfl (List.mem_of_getElem? (i := 1) rfl) ?_
  refine uu_geta (ci := 12) (N := 153) fX12_297 (by decide) so_1079.is (by decide) (c := 1103) (by decide) dX12_node_57 ?_
  refine uu_iload_n dX12_node_60 rfl (List.mem_of_getElem? (i := 0) rfl) ?_
  refine uu_iconst (v := 0) dX12_node_61 (by decide) ?_
  obtain ⟨s9, e10, h⟩ := uu_ob h
  refine uu_iast e10 dX12_node_62 ?_
  refine uu_aload_n dX12_node_63 rfl (List.mem_of_getElem? (i := 1) rfl) ?_
  refine uu_geta (ci := 12) (N := 153) fX12_300 (by decide) so_1079.is (by decide) (c := 1105) (by decide) dX12_node_64 ?_
  refine uu_iload_n dX12_node_67 rfl (List.mem_of_getElem? (i := 0) rfl) ?_
  refine uu_iconst (v := 0) dX12_node_68 (by decide) ?_
  obtain ⟨s11, e12, h⟩ := uu_ob h
  refine uu_iast e12 dX12_node_69 ?_
  refine uu_aload_n dX12_node_70 rfl (List.mem_of_getElem? (i := 1) rfl) ?_
  refine uu_geta (ci := 12) (N := 153) fX12_303 (by decide) so_1079.is (by decide) (c := 1106) (by decide) dX12_node_71 ?_
  refine uu_iload_n dX12_node_74 rfl (List.mem_of_getElem? (i := 0) rfl) ?_
  refine uu_iconst (v := -1) dX12_node_75 (by decide) ?_
  obtain ⟨s13, e14, h⟩ := uu_ob h
  refine uu_iast e14 dX12_node_76 ?_
  refine uu_aload_n dX12_node_77 rfl (List.mem_of_getElem? (i := 1) rfl) ?_
  refine uu_geta (ci := 12) (N := 153) fX12_306 (by decide) so_1079.is (by decide) (c := 1108) (by decide) dX12_node_78 ?_
  refine uu_iload_n dX12_node_81 rfl (List.mem_of_getElem? (i := 0) rfl) ?_
  refine uu_iconst (v := 0) dX12_node_82 (by decide) ?_
  obtain ⟨s15, e16, h⟩ := uu_ob h
  refine uu_zast e16 dX12_node_83 ?_
  refine uu_aload_n dX12_node_84 rfl (List.mem_of_getElem? (i := 1) rfl) ?_
  refine uu_geta (ci := 12) (N := 153) fX12_310 (by decide) so_1079.is (by decide) (c := 1109) (by decide) dX12_node_85 ?_
  refine uu_iload_n dX12_node_88 rfl (List.mem_of_getElem? (i := 0) rfl) ?_
  refine uu_iconst (v := -1) dX12_node_89 (by decide) ?_
  obtain ⟨s17, e18, h⟩ := uu_ob h
  refine uu_iast e18 dX12_node_90 ?_
  refine uu_aload_n dX12_node_91 rfl (List.mem_of_getElem? (i := 1) rfl) ?_
  refine uu_geta (ci := 12) (N := 153) fX12_313 (by decide) so_1079.is (by decide) (c := 1110) (by decide) dX12_node_92 ?_
  refine uu_iload_n dX12_node_95 rfl (List.mem_of_getElem? (i := 0) rfl) ?_
  refine uu_iconst (v := 0) dX12_node_96 (by decide) ?_
  obtain ⟨s19, e20, h⟩ := uu_ob h
  refine uu_iast e20 dX12_node_97 ?_
  refine uu_aload_n dX12_node_98 rfl (List.mem_of_getElem? (i := 1) rfl) ?_
  refine uu_geta (ci := 12) (N := 153) fX12_316 (by decide) so_1079.is (by decide) (c := 1111) (by decide) dX12_node_99 ?_
  refine uu_iload_n dX12_node_102 rfl (List.mem_of_getElem? (i := 0) rfl) ?_
  refine uu_iconst (v := -1) dX12_node_103 (by decide) ?_
  obtain ⟨s21, e22, h⟩ := uu_ob h
  refine uu_iast e22 dX12_node_104 ?_
  refine uu_aload_n dX12_node_105 rfl (List.mem_of_getElem? (i := 1) rfl) ?_
  refine uu_geta (ci := 12) (N := 153) fX12_319 (by decide) so_1079.is (by decide) (c := 1112) (by decide) dX12_node_106 ?_
  refine uu_iload_n dX12_node_109 rfl (List.mem_of_getElem? (i := 0) rfl) ?_
  refine uu_iconst (v := -1) dX12_node_110 (by decide) ?_
  obtain ⟨s23, e24, h⟩ := uu_ob h
  refine uu_iast e24 dX12_node_111 ?_
  refine uu_aload_n dX12_node_112 rfl (List.mem_of_getElem? (i := 1) rfl) ?_
  refine uu_geta (ci := 12) (N := 153) fX12_322 (by decide) so_1079.is (by decide) (c := 1113) (by decide) dX12_node_113 ?_
  refine uu_iload_n dX12_node_116 rfl (List.mem_of_getElem? (i := 0) rfl) ?_
  refine uu_iconst (v := 0) dX12_node_117 (by decide) ?_
  obtain ⟨s25, e26, h⟩ := uu_ob h
  refine uu_iast e26 dX12_node_118 ?_
  refine uu_aload_n dX12_node_119 rfl (List.mem_of_getElem? (i := 1) rfl) ?_
  refine uu_geta (ci := 12) (N := 153) fX12_325 (by decide) so_1079.is (by decide) (c := 1114) (by decide) dX12_node_120 ?_
  refine uu_iload_n dX12_node_123 rfl (List.mem_of_getElem? (i := 0) rfl) ?_
  refine uu_iconst (v := -1) dX12_node_124 (by decide) ?_
  obtain ⟨s27, e28, h⟩ := uu_ob h
  refine uu_iast e28 dX12_node_125 ?_
  refine uu_aload_n dX12_node_126 rfl (List.mem_of_getElem? (i := 1) rfl) ?_
  refine uu_geta (ci := 12) (N := 153) fX12_328 (by decide) so_1079.is (by decide) (c := 1115) (by decide) dX12_node_127 ?_
  refine uu_iload_n dX12_node_130 rfl (List.mem_of_getElem? (i := 0) rfl) ?_
  refine uu_iconst (v := -1) dX12_node_131 (by decide) ?_
  obtain ⟨s29, e30, h⟩ := uu_ob h
  refine uu_iast e30 dX12_node_132 ?_
  refine uu_iload_n dX12_node_133 rfl (List.mem_of_getElem? (i := 0) rfl) ?_
  have hr := Option.some.inj h
  subst hr
  exact uu_iret rfl dX12_node_134
def fn_X12_node (x1 : Int32) (s : uS) : Option (uS × Int32) := if (519 : Int32) ≤ (s.I 1079 41) then (fb_X12_node_20 x1 519 s) else (fb_X12_node_20 x1 (s.I 1079 41) s)
set_option maxRecDepth 100000 in
set_option maxHeartbeats 4000000 in
theorem xc_X12_node {l : Launch} {D : va_G} {A : Nat → ClassId} {B : Nat} {Z : State → Heap → Prop} {vF : Value} (uk : uK B Z vF) {x1 : Int32} {s : uS} {r : (uS × Int32)}  (h : fn_X12_node x1 s = some r) : CU l D A B Z 0 mX12_node s [.ref (B + 1079), .int x1] (r.1, some (.int r.2)) := by
  unfold fn_X12_node at h
  refine cu_of rfl uk.1.1 (Nat.le_of_ble_eq_true rfl) ?_
  show GU _ _ _ _ _ _ _ _ _ 0 [(0, .ref (B + 1079)), (1, .int x1)] []
  refine uu_aload_n dX12_node_0 rfl (List.mem_of_getElem? (i := 0) rfl) ?_
  refine uu_geti (ci := 12) (N := 153) fX12_282 (by decide) so_1079.is (by decide) (by decide) dX12_node_1 ?_
  refine uu_sipush (v := 519) dX12_node_4 (by decide) ?_
  refine uu_icmp_ge (tgt := 17) dX12_node_7 (by decide) (fun c1 => ?_) (fun c1 => ?_)
  · replace h := uu_pos c1 h
    refine uu_sipush (v := 519) dX12_node_17 (by decide) ?_
    exact xb_X12_node_20 uk  h
  · replace h := uu_neg c1 h
    refine uu_aload_n dX12_node_10 rfl (List.mem_of_getElem? (i := 0) rfl) ?_
    refine uu_geti (ci := 12) (N := 153) fX12_282 (by decide) so_1079.is (by decide) (by decide) dX12_node_11 ?_
    refine uu_goto (tgt := 20) dX12_node_14 (by decide) ?_
    exact xb_X12_node_20 uk  h
abbrev mX12_counting : hM := (yX12_counting, cX12_counting, 2, (some (.int)))
theorem dX12_counting_17 : decode cX12_counting 17 = .ok (.aload_n 0, 1) := by decide +kernel
theorem dX12_counting_18 : decode cX12_counting 18 = .ok (.aload_n 0, 1) := by decide +kernel
theorem fX12_331 : h_fl RX12 331 12 42 RX12 TX12 153 := ⟨rfl, by decide, inX12, h_t12 3 rfl rfl⟩
theorem dX12_counting_19 : decode cX12_counting 19 = .ok (.getfield 331, 3) := by decide +kernel
theorem dX12_counting_22 : decode cX12_counting 22 = .ok (.iconst 1, 1) := by decide +kernel
theorem dX12_counting_23 : decode cX12_counting 23 = .ok (.iadd, 1) := by decide +kernel
theorem dX12_counting_24 : decode cX12_counting 24 = .ok (.putfield 331, 3) := by decide +kernel
theorem dX12_counting_27 : decode cX12_counting 27 = .ok (.aload_n 0, 1) := by decide +kernel
theorem dX12_counting_28 : decode cX12_counting 28 = .ok (.iload_n 1, 1) := by decide +kernel
theorem kX12_node : h_ml mX12_node 1 := ⟨h_t8 175 rfl rfl, h_t1 16 rfl rfl, ⟨by decide, by decide, by decide +kernel⟩, by decide⟩
theorem lX12_334 : Cond.methodLink RX12 334 mX12_node.1 ∈ lw_g := h_t8 172 rfl rfl
theorem sX12_node : Cond.instanceMethod mX12_node.1 ∈ lw_g ∧ Cond.selects mX12_node.1.cls mX12_node.1 mX12_node.1 ∈ lw_g := ⟨h_t8 174 rfl rfl, h_ins 140 rfl⟩
theorem dX12_counting_29 : decode cX12_counting 29 = .ok (.invokevirtual 334, 3) := by decide +kernel
theorem dX12_counting_32 : decode cX12_counting 32 = .ok (.ireturn, 1) := by decide +kernel
theorem dX12_counting_0 : decode cX12_counting 0 = .ok (.aload_n 0, 1) := by decide +kernel
theorem dX12_counting_1 : decode cX12_counting 1 = .ok (.getfield 331, 3) := by decide +kernel
theorem dX12_counting_4 : decode cX12_counting 4 = .ok (.bipush 100, 2) := by decide +kernel
theorem dX12_counting_6 : decode cX12_counting 6 = .ok (.if_icmp .ne 11, 3) := by decide +kernel
theorem dX12_counting_9 : decode cX12_counting 9 = .ok (.aload_n 0, 1) := by decide +kernel
theorem dX12_counting_10 : decode cX12_counting 10 = .ok (.aload_n 0, 1) := by decide +kernel
theorem dX12_counting_11 : decode cX12_counting 11 = .ok (.getfield 199, 3) := by decide +kernel
theorem dX12_counting_14 : decode cX12_counting 14 = .ok (.invokevirtual 208, 3) := by decide +kernel
def fb_X12_counting_17  (x1 : Int32) (s : uS) : Option (uS × Int32) := (fn_X12_node x1 (wI s 1079 42 ((s.I 1079 42) + 1))).bind fun r1 => some (r1.1, r1.2)
set_option maxRecDepth 100000 in
set_option maxHeartbeats 4000000 in
theorem xb_X12_counting_17 {l : Launch} {D : va_G} {A : Nat → ClassId} {B : Nat} {Z : State → Heap → Prop} {vF : Value} (uk : uK B Z vF)   {x1 : Int32} {s : uS} {r : (uS × Int32)}  (h : fb_X12_counting_17  x1 s = some r) : GU l D A B Z mX12_counting 1 (r.1, some (.int r.2)) s 17 [(0, .ref (B + 1079)), (1, .int x1)] [] := by
  unfold fb_X12_counting_17 at h
  refine uu_aload_n dX12_counting_17 rfl (List.mem_of_getElem? (i := 0) rfl) ?_
  refine uu_aload_n dX12_counting_18 rfl (List.mem_of_getElem? (i := 0) rfl) ?_
  refine uu_geti (ci := 12) (N := 153) fX12_331 (by decide) so_1079.is (by decide) (by decide) dX12_counting_19 ?_
  refine uu_iconst (v := 1) dX12_counting_22 (by decide) ?_
  refine uu_iadd dX12_counting_23 ?_
  refine uu_puti (ft := .int) (ci := 12) (N := 153) fX12_331 ptX12 (Or.inl rfl) (by decide) so_1079.is (by decide) (by decide) (by decide +kernel) rfl rfl dX12_counting_24 ?_
  refine uu_aload_n dX12_counting_27 rfl (List.mem_of_getElem? (i := 0) rfl) ?_
  refine uu_iload_n dX12_counting_28 rfl (List.mem_of_getElem? (i := 1) rfl) ?_
  obtain ⟨r1, e2, h⟩ := uu_ob h
  refine uu_cv (d1 := 0) (k := 1079) (ci := 12) (T := TX12) (N := 153) (As := [.int x1]) (st := []) (st' := [.int r1.2]) (xc_X12_node uk  e2) so_1079.is (by decide) rfl kX12_node lX12_334 sX12_node (by decide) (Nat.le_of_ble_eq_true rfl) dX12_counting_29 rfl ?_
  have hr := Option.some.inj h
  subst hr
  exact uu_iret rfl dX12_counting_32
def fn_X12_counting (x1 : Int32) (s : uS) : Option (uS × Int32) := if (s.I 1079 42) = 100 then ((fn_X12_fail (s.I 1079 32) s).bind fun s2 => fb_X12_counting_17 x1 s2) else (fb_X12_counting_17 x1 s)
set_option maxRecDepth 100000 in
set_option maxHeartbeats 4000000 in
theorem xc_X12_counting {l : Launch} {D : va_G} {A : Nat → ClassId} {B : Nat} {Z : State → Heap → Prop} {vF : Value} (uk : uK B Z vF) {x1 : Int32} {s : uS} {r : (uS × Int32)}  (h : fn_X12_counting x1 s = some r) : CU l D A B Z 1 mX12_counting s [.ref (B + 1079), .int x1] (r.1, some (.int r.2)) := by
  unfold fn_X12_counting at h
  refine cu_of rfl uk.1.1 (Nat.le_of_ble_eq_true rfl) ?_
  show GU _ _ _ _ _ _ _ _ _ 0 [(0, .ref (B + 1079)), (1, .int x1)] []
  refine uu_aload_n dX12_counting_0 rfl (List.mem_of_getElem? (i := 0) rfl) ?_
  refine uu_geti (ci := 12) (N := 153) fX12_331 (by decide) so_1079.is (by decide) (by decide) dX12_counting_1 ?_
  refine uu_bipush (v := 100) dX12_counting_4 (by decide) ?_
  refine uu_icmp_ne (tgt := 17) dX12_counting_6 (by decide) (fun c1 => ?_) (fun c1 => ?_)
  · replace h := uu_neg c1 h
    exact xb_X12_counting_17 uk  h
  · replace h := uu_pos c1 h
    refine uu_aload_n dX12_counting_9 rfl (List.mem_of_getElem? (i := 0) rfl) ?_
    refine uu_aload_n dX12_counting_10 rfl (List.mem_of_getElem? (i := 0) rfl) ?_
    refine uu_geti (ci := 12) (N := 153) fX12_199 (by decide) so_1079.is (by decide) (by decide) dX12_counting_11 ?_
    obtain ⟨s2, e3, h⟩ := uu_ob h
    refine uu_cv (d1 := 0) (k := 1079) (ci := 12) (T := TX12) (N := 153) (As := [.int (s.I 1079 32)]) (st := []) (st' := []) (xc_X12_fail uk  e3) so_1079.is (by decide) rfl kX12_fail lX12_208 sX12_fail (by decide) (Nat.le_of_ble_eq_true rfl) dX12_counting_14 rfl ?_
    exact xb_X12_counting_17 uk  h
abbrev mX12_put : hM := (yX12_put, cX12_put, 3, none)
theorem dX12_put_0 : decode cX12_put 0 = .ok (.aload_n 0, 1) := by decide +kernel
theorem dX12_put_1 : decode cX12_put 1 = .ok (.getfield 288, 3) := by decide +kernel
theorem dX12_put_4 : decode cX12_put 4 = .ok (.iload_n 1, 1) := by decide +kernel
theorem dX12_put_5 : decode cX12_put 5 = .ok (.iaload, 1) := by decide +kernel
theorem dX12_put_6 : decode cX12_put 6 = .ok (.iconst (-1), 1) := by decide +kernel
theorem dX12_put_7 : decode cX12_put 7 = .ok (.if_icmp .ne 13, 3) := by decide +kernel
theorem dX12_put_20 : decode cX12_put 20 = .ok (.aload_n 0, 1) := by decide +kernel
theorem dX12_put_21 : decode cX12_put 21 = .ok (.getfield 294, 3) := by decide +kernel
theorem dX12_put_24 : decode cX12_put 24 = .ok (.aload_n 0, 1) := by decide +kernel
theorem dX12_put_25 : decode cX12_put 25 = .ok (.getfield 291, 3) := by decide +kernel
theorem dX12_put_28 : decode cX12_put 28 = .ok (.iload_n 1, 1) := by decide +kernel
theorem dX12_put_29 : decode cX12_put 29 = .ok (.iaload, 1) := by decide +kernel
theorem dX12_put_30 : decode cX12_put 30 = .ok (.iload_n 2, 1) := by decide +kernel
theorem dX12_put_31 : decode cX12_put 31 = .ok (.iastore, 1) := by decide +kernel
theorem dX12_put_32 : decode cX12_put 32 = .ok (.aload_n 0, 1) := by decide +kernel
theorem dX12_put_33 : decode cX12_put 33 = .ok (.getfield 291, 3) := by decide +kernel
theorem dX12_put_36 : decode cX12_put 36 = .ok (.iload_n 1, 1) := by decide +kernel
theorem dX12_put_37 : decode cX12_put 37 = .ok (.iload_n 2, 1) := by decide +kernel
theorem dX12_put_38 : decode cX12_put 38 = .ok (.iastore, 1) := by decide +kernel
theorem dX12_put_39 : decode cX12_put 39 = .ok (.return_, 1) := by decide +kernel
theorem dX12_put_10 : decode cX12_put 10 = .ok (.aload_n 0, 1) := by decide +kernel
theorem dX12_put_11 : decode cX12_put 11 = .ok (.getfield 288, 3) := by decide +kernel
theorem dX12_put_14 : decode cX12_put 14 = .ok (.iload_n 1, 1) := by decide +kernel
theorem dX12_put_15 : decode cX12_put 15 = .ok (.iload_n 2, 1) := by decide +kernel
theorem dX12_put_16 : decode cX12_put 16 = .ok (.iastore, 1) := by decide +kernel
theorem dX12_put_17 : decode cX12_put 17 = .ok (.goto 15, 3) := by decide +kernel
def fn_X12_put (x1 : Int32) (x2 : Int32) (s : uS) : Option uS := (iget 20 s 1099 x1).bind fun v1 => if v1 = (-1) then ((iput 20 s 1099 x1 x2).bind fun s10 => (iput 20 s10 1100 x1 x2).bind fun s12 => some s12) else ((iget 20 s 1100 x1).bind fun v4 => (iput 20 s 1101 v4 x2).bind fun s6 => (iput 20 s6 1100 x1 x2).bind fun s8 => some s8)
set_option maxRecDepth 100000 in
set_option maxHeartbeats 4000000 in
theorem xc_X12_put {l : Launch} {D : va_G} {A : Nat → ClassId} {B : Nat} {Z : State → Heap → Prop} {vF : Value} (uk : uK B Z vF) {x1 : Int32} {x2 : Int32} {s : uS} {r : uS}  (h : fn_X12_put x1 x2 s = some r) : CU l D A B Z 0 mX12_put s [.ref (B + 1079), .int x1, .int x2] (r, none) := by
  unfold fn_X12_put at h
  refine cu_of rfl uk.1.1 (Nat.le_of_ble_eq_true rfl) ?_
  show GU _ _ _ _ _ _ _ _ _ 0 [(0, .ref (B + 1079)), (1, .int x1), (2, .int x2)] []
  refine uu_aload_n dX12_put_0 rfl (List.mem_of_getElem? (i := 0) rfl) ?_
  refine uu_geta (ci := 12) (N := 153) fX12_288 (by decide) so_1079.is (by decide) (c := 1099) (by decide) dX12_put_1 ?_
  refine uu_iload_n dX12_put_4 rfl (List.mem_of_getElem? (i := 1) rfl) ?_
  obtain ⟨v1, e2, h⟩ := uu_ob h
  refine uu_iald e2 dX12_put_5 ?_
  refine uu_iconst (v := -1) dX12_put_6 (by decide) ?_
  refine uu_icmp_ne (tgt := 20) dX12_put_7 (by decide) (fun c3 => ?_) (fun c3 => ?_)
  · replace h := uu_neg c3 h
    refine uu_aload_n dX12_put_20 rfl (List.mem_of_getElem? (i := 0) rfl) ?_
    refine uu_geta (ci := 12) (N := 153) fX12_294 (by decide) so_1079.is (by decide) (c := 1101) (by decide) dX12_put_21 ?_
    refine uu_aload_n dX12_put_24 rfl (List.mem_of_getElem? (i := 0) rfl) ?_
    refine uu_geta (ci := 12) (N := 153) fX12_291 (by decide) so_1079.is (by decide) (c := 1100) (by decide) dX12_put_25 ?_
    refine uu_iload_n dX12_put_28 rfl (List.mem_of_getElem? (i := 1) rfl) ?_
    obtain ⟨v4, e5, h⟩ := uu_ob h
    refine uu_iald e5 dX12_put_29 ?_
    refine uu_iload_n dX12_put_30 rfl (List.mem_of_getElem? (i := 2) rfl) ?_
    obtain ⟨s6, e7, h⟩ := uu_ob h
    refine uu_iast e7 dX12_put_31 ?_
    refine uu_aload_n dX12_put_32 rfl (List.mem_of_getElem? (i := 0) rfl) ?_
    refine uu_geta (ci := 12) (N := 153) fX12_291 (by decide) so_1079.is (by decide) (c := 1100) (by decide) dX12_put_33 ?_
    refine uu_iload_n dX12_put_36 rfl (List.mem_of_getElem? (i := 1) rfl) ?_
    refine uu_iload_n dX12_put_37 rfl (List.mem_of_getElem? (i := 2) rfl) ?_
    obtain ⟨s8, e9, h⟩ := uu_ob h
    refine uu_iast e9 dX12_put_38 ?_
    have hr := Option.some.inj h
    subst hr
    exact uu_vret rfl dX12_put_39
  · replace h := uu_pos c3 h
    refine uu_aload_n dX12_put_10 rfl (List.mem_of_getElem? (i := 0) rfl) ?_
    refine uu_geta (ci := 12) (N := 153) fX12_288 (by decide) so_1079.is (by decide) (c := 1099) (by decide) dX12_put_11 ?_
    refine uu_iload_n dX12_put_14 rfl (List.mem_of_getElem? (i := 1) rfl) ?_
    refine uu_iload_n dX12_put_15 rfl (List.mem_of_getElem? (i := 2) rfl) ?_
    obtain ⟨s10, e11, h⟩ := uu_ob h
    refine uu_iast e11 dX12_put_16 ?_
    refine uu_goto (tgt := 32) dX12_put_17 (by decide) ?_
    refine uu_aload_n dX12_put_32 rfl (List.mem_of_getElem? (i := 0) rfl) ?_
    refine uu_geta (ci := 12) (N := 153) fX12_291 (by decide) so_1079.is (by decide) (c := 1100) (by decide) dX12_put_33 ?_
    refine uu_iload_n dX12_put_36 rfl (List.mem_of_getElem? (i := 1) rfl) ?_
    refine uu_iload_n dX12_put_37 rfl (List.mem_of_getElem? (i := 2) rfl) ?_
    obtain ⟨s12, e13, h⟩ := uu_ob h
    refine uu_iast e13 dX12_put_38 ?_
    have hr := Option.some.inj h
    subst hr
    exact uu_vret rfl dX12_put_39
abbrev mX12_needs : hM := (yX12_needs, cX12_needs, 2, none)
theorem dX12_needs_0 : decode cX12_needs 0 = .ok (.aload_n 0, 1) := by decide +kernel
theorem fX12_337 : h_fl RX12 337 12 64 RX12 TX12 153 := ⟨rfl, by decide, inX12, h_t12 25 rfl rfl⟩
theorem dX12_needs_1 : decode cX12_needs 1 = .ok (.getfield 337, 3) := by decide +kernel
theorem dX12_needs_4 : decode cX12_needs 4 = .ok (.iload_n 1, 1) := by decide +kernel
theorem dX12_needs_5 : decode cX12_needs 5 = .ok (.iand, 1) := by decide +kernel
theorem dX12_needs_6 : decode cX12_needs 6 = .ok (.ifCond .ne 11, 3) := by decide +kernel
theorem dX12_needs_17 : decode cX12_needs 17 = .ok (.return_, 1) := by decide +kernel
theorem dX12_needs_9 : decode cX12_needs 9 = .ok (.aload_n 0, 1) := by decide +kernel
theorem dX12_needs_10 : decode cX12_needs 10 = .ok (.aload_n 0, 1) := by decide +kernel
theorem dX12_needs_11 : decode cX12_needs 11 = .ok (.getfield 199, 3) := by decide +kernel
theorem dX12_needs_14 : decode cX12_needs 14 = .ok (.invokevirtual 208, 3) := by decide +kernel
def fn_X12_needs (x1 : Int32) (s : uS) : Option uS := if ((s.I 1079 64) &&& x1) = 0 then ((fn_X12_fail (s.I 1079 32) s).bind fun s2 => some s2) else (some s)
set_option maxRecDepth 100000 in
set_option maxHeartbeats 4000000 in
theorem xc_X12_needs {l : Launch} {D : va_G} {A : Nat → ClassId} {B : Nat} {Z : State → Heap → Prop} {vF : Value} (uk : uK B Z vF) {x1 : Int32} {s : uS} {r : uS}  (h : fn_X12_needs x1 s = some r) : CU l D A B Z 1 mX12_needs s [.ref (B + 1079), .int x1] (r, none) := by
  unfold fn_X12_needs at h
  refine cu_of rfl uk.1.1 (Nat.le_of_ble_eq_true rfl) ?_
  show GU _ _ _ _ _ _ _ _ _ 0 [(0, .ref (B + 1079)), (1, .int x1)] []
  refine uu_aload_n dX12_needs_0 rfl (List.mem_of_getElem? (i := 0) rfl) ?_
  refine uu_geti (ci := 12) (N := 153) fX12_337 (by decide) so_1079.is (by decide) (by decide) dX12_needs_1 ?_
  refine uu_iload_n dX12_needs_4 rfl (List.mem_of_getElem? (i := 1) rfl) ?_
  refine uu_iand dX12_needs_5 ?_
  refine uu_if_ne (tgt := 17) dX12_needs_6 (by decide) (fun c1 => ?_) (fun c1 => ?_)
  · replace h := uu_neg c1 h
    have hr := Option.some.inj h
    subst hr
    exact uu_vret rfl dX12_needs_17
  · replace h := uu_pos c1 h
    refine uu_aload_n dX12_needs_9 rfl (List.mem_of_getElem? (i := 0) rfl) ?_
    refine uu_aload_n dX12_needs_10 rfl (List.mem_of_getElem? (i := 0) rfl) ?_
    refine uu_geti (ci := 12) (N := 153) fX12_199 (by decide) so_1079.is (by decide) (by decide) dX12_needs_11 ?_
    obtain ⟨s2, e3, h⟩ := uu_ob h
    refine uu_cv (d1 := 0) (k := 1079) (ci := 12) (T := TX12) (N := 153) (As := [.int (s.I 1079 32)]) (st := []) (st' := []) (xc_X12_fail uk  e3) so_1079.is (by decide) rfl kX12_fail lX12_208 sX12_fail (by decide) (Nat.le_of_ble_eq_true rfl) dX12_needs_14 rfl ?_
    have hr := Option.some.inj h
    subst hr
    exact uu_vret rfl dX12_needs_17
abbrev mX12_string : hM := (yX12_string, cX12_string, 1, (some (.int)))
theorem dX12_string_36 : decode cX12_string 36 = .ok (.aload_n 0, 1) := by decide +kernel
theorem dX12_string_37 : decode cX12_string 37 = .ok (.getfield 343, 3) := by decide +kernel
theorem dX12_string_40 : decode cX12_string 40 = .ok (.aload_n 0, 1) := by decide +kernel
theorem fX12_340 : h_fl RX12 340 12 61 RX12 TX12 153 := ⟨rfl, by decide, inX12, h_t12 22 rfl rfl⟩
theorem dX12_string_41 : decode cX12_string 41 = .ok (.getfield 340, 3) := by decide +kernel
theorem dX12_string_44 : decode cX12_string 44 = .ok (.aload_n 0, 1) := by decide +kernel
theorem dX12_string_45 : decode cX12_string 45 = .ok (.getfield 257, 3) := by decide +kernel
theorem dX12_string_48 : decode cX12_string 48 = .ok (.iastore, 1) := by decide +kernel
theorem dX12_string_49 : decode cX12_string 49 = .ok (.aload_n 0, 1) := by decide +kernel
theorem dX12_string_50 : decode cX12_string 50 = .ok (.getfield 346, 3) := by decide +kernel
theorem dX12_string_53 : decode cX12_string 53 = .ok (.aload_n 0, 1) := by decide +kernel
theorem dX12_string_54 : decode cX12_string 54 = .ok (.getfield 340, 3) := by decide +kernel
theorem dX12_string_57 : decode cX12_string 57 = .ok (.aload_n 0, 1) := by decide +kernel
theorem dX12_string_58 : decode cX12_string 58 = .ok (.getfield 267, 3) := by decide +kernel
theorem dX12_string_61 : decode cX12_string 61 = .ok (.iastore, 1) := by decide +kernel
theorem dX12_string_62 : decode cX12_string 62 = .ok (.aload_n 0, 1) := by decide +kernel
theorem dX12_string_63 : decode cX12_string 63 = .ok (.aload_n 0, 1) := by decide +kernel
theorem dX12_string_64 : decode cX12_string 64 = .ok (.getfield 340, 3) := by decide +kernel
theorem dX12_string_67 : decode cX12_string 67 = .ok (.iconst 1, 1) := by decide +kernel
theorem dX12_string_68 : decode cX12_string 68 = .ok (.iadd, 1) := by decide +kernel
theorem dX12_string_69 : decode cX12_string 69 = .ok (.putfield 340, 3) := by decide +kernel
theorem dX12_string_72 : decode cX12_string 72 = .ok (.aload_n 0, 1) := by decide +kernel
theorem dX12_string_73 : decode cX12_string 73 = .ok (.getfield 340, 3) := by decide +kernel
theorem dX12_string_76 : decode cX12_string 76 = .ok (.iconst 1, 1) := by decide +kernel
theorem dX12_string_77 : decode cX12_string 77 = .ok (.isub, 1) := by decide +kernel
theorem dX12_string_78 : decode cX12_string 78 = .ok (.ireturn, 1) := by decide +kernel
theorem dX12_string_0 : decode cX12_string 0 = .ok (.aload_n 0, 1) := by decide +kernel
theorem dX12_string_1 : decode cX12_string 1 = .ok (.iconst 4, 1) := by decide +kernel
theorem dX12_string_2 : decode cX12_string 2 = .ok (.invokevirtual 273, 3) := by decide +kernel
theorem dX12_string_5 : decode cX12_string 5 = .ok (.ifCond .ne 13, 3) := by decide +kernel
theorem dX12_string_18 : decode cX12_string 18 = .ok (.aload_n 0, 1) := by decide +kernel
theorem dX12_string_19 : decode cX12_string 19 = .ok (.getfield 340, 3) := by decide +kernel
theorem dX12_string_22 : decode cX12_string 22 = .ok (.sipush 300, 3) := by decide +kernel
theorem dX12_string_25 : decode cX12_string 25 = .ok (.if_icmp .ne 11, 3) := by decide +kernel
theorem dX12_string_28 : decode cX12_string 28 = .ok (.aload_n 0, 1) := by decide +kernel
theorem dX12_string_29 : decode cX12_string 29 = .ok (.aload_n 0, 1) := by decide +kernel
theorem dX12_string_30 : decode cX12_string 30 = .ok (.getfield 199, 3) := by decide +kernel
theorem dX12_string_33 : decode cX12_string 33 = .ok (.invokevirtual 208, 3) := by decide +kernel
theorem dX12_string_8 : decode cX12_string 8 = .ok (.aload_n 0, 1) := by decide +kernel
theorem dX12_string_9 : decode cX12_string 9 = .ok (.aload_n 0, 1) := by decide +kernel
theorem dX12_string_10 : decode cX12_string 10 = .ok (.getfield 199, 3) := by decide +kernel
theorem dX12_string_13 : decode cX12_string 13 = .ok (.invokevirtual 208, 3) := by decide +kernel
theorem dX12_string_16 : decode cX12_string 16 = .ok (.iconst 0, 1) := by decide +kernel
theorem dX12_string_17 : decode cX12_string 17 = .ok (.ireturn, 1) := by decide +kernel
def fb_X12_string_36   (s : uS) : Option (uS × Int32) := (iput 20 s 1116 (s.I 1079 61) (s.I 1079 38)).bind fun s1 => (iput 20 s1 1117 (s1.I 1079 61) (s1.I 1079 39)).bind fun s3 => some (wI s3 1079 61 ((s3.I 1079 61) + 1), ((wI s3 1079 61 ((s3.I 1079 61) + 1)).I 1079 61) - 1)
set_option maxRecDepth 100000 in
set_option maxHeartbeats 4000000 in
theorem xb_X12_string_36 {l : Launch} {D : va_G} {A : Nat → ClassId} {B : Nat} {Z : State → Heap → Prop} {vF : Value} (uk : uK B Z vF)    {s : uS} {r : (uS × Int32)}  (h : fb_X12_string_36   s = some r) : GU l D A B Z mX12_string 1 (r.1, some (.int r.2)) s 36 [(0, .ref (B + 1079))] [] := by
  unfold fb_X12_string_36 at h
  refine uu_aload_n dX12_string_36 rfl (List.mem_of_getElem? (i := 0) rfl) ?_
  refine uu_geta (ci := 12) (N := 153) fX12_343 (by decide) so_1079.is (by decide) (c := 1116) (by decide) dX12_string_37 ?_
  refine uu_aload_n dX12_string_40 rfl (List.mem_of_getElem? (i := 0) rfl) ?_
  refine uu_geti (ci := 12) (N := 153) fX12_340 (by decide) so_1079.is (by decide) (by decide) dX12_string_41 ?_
  refine uu_aload_n dX12_string_44 rfl (List.mem_of_getElem? (i := 0) rfl) ?_
  refine uu_geti (ci := 12) (N := 153) fX12_257 (by decide) so_1079.is (by decide) (by decide) dX12_string_45 ?_
  obtain ⟨s1, e2, h⟩ := uu_ob h
  refine uu_iast e2 dX12_string_48 ?_
  refine uu_aload_n dX12_string_49 rfl (List.mem_of_getElem? (i := 0) rfl) ?_
  refine uu_geta (ci := 12) (N := 153) fX12_346 (by decide) so_1079.is (by decide) (c := 1117) (by decide) dX12_string_50 ?_
  refine uu_aload_n dX12_string_53 rfl (List.mem_of_getElem? (i := 0) rfl) ?_
  refine uu_geti (ci := 12) (N := 153) fX12_340 (by decide) so_1079.is (by decide) (by decide) dX12_string_54 ?_
  refine uu_aload_n dX12_string_57 rfl (List.mem_of_getElem? (i := 0) rfl) ?_
  refine uu_geti (ci := 12) (N := 153) fX12_267 (by decide) so_1079.is (by decide) (by decide) dX12_string_58 ?_
  obtain ⟨s3, e4, h⟩ := uu_ob h
  refine uu_iast e4 dX12_string_61 ?_
  refine uu_aload_n dX12_string_62 rfl (List.mem_of_getElem? (i := 0) rfl) ?_
  refine uu_aload_n dX12_string_63 rfl (List.mem_of_getElem? (i := 0) rfl) ?_
  refine uu_geti (ci := 12) (N := 153) fX12_340 (by decide) so_1079.is (by decide) (by decide) dX12_string_64 ?_
  refine uu_iconst (v := 1) dX12_string_67 (by decide) ?_
  refine uu_iadd dX12_string_68 ?_
  refine uu_puti (ft := .int) (ci := 12) (N := 153) fX12_340 ptX12 (Or.inl rfl) (by decide) so_1079.is (by decide) (by decide) (by decide +kernel) rfl rfl dX12_string_69 ?_
  refine uu_aload_n dX12_string_72 rfl (List.mem_of_getElem? (i := 0) rfl) ?_
  refine uu_geti (ci := 12) (N := 153) fX12_340 (by decide) so_1079.is (by decide) (by decide) dX12_string_73 ?_
  refine uu_iconst (v := 1) dX12_string_76 (by decide) ?_
  refine uu_isub dX12_string_77 ?_
  have hr := Option.some.inj h
  subst hr
  exact uu_iret rfl dX12_string_78
def fn_X12_string  (s : uS) : Option (uS × Int32) := (fn_X12_is 4 s).bind fun v1 => if v1 = true then (if (s.I 1079 61) = 300 then ((fn_X12_fail (s.I 1079 32) s).bind fun s5 => fb_X12_string_36 s5) else (fb_X12_string_36 s)) else ((fn_X12_fail (s.I 1079 32) s).bind fun s7 => some (s7, (0 : Int32)))
set_option maxRecDepth 100000 in
set_option maxHeartbeats 4000000 in
theorem xc_X12_string {l : Launch} {D : va_G} {A : Nat → ClassId} {B : Nat} {Z : State → Heap → Prop} {vF : Value} (uk : uK B Z vF)  {s : uS} {r : (uS × Int32)}  (h : fn_X12_string  s = some r) : CU l D A B Z 1 mX12_string s [.ref (B + 1079)] (r.1, some (.int r.2)) := by
  unfold fn_X12_string at h
  refine cu_of rfl uk.1.1 (Nat.le_of_ble_eq_true rfl) ?_
  show GU _ _ _ _ _ _ _ _ _ 0 [(0, .ref (B + 1079))] []
  refine uu_aload_n dX12_string_0 rfl (List.mem_of_getElem? (i := 0) rfl) ?_
  refine uu_iconst (v := 4) dX12_string_1 (by decide) ?_
  obtain ⟨v1, e2, h⟩ := uu_ob h
  refine uu_cv (d1 := 0) (k := 1079) (ci := 12) (T := TX12) (N := 153) (As := [.int 4]) (st := []) (st' := [.int (bI v1)]) (xc_X12_is uk  e2) so_1079.is (by decide) rfl kX12_is lX12_273 sX12_is (by decide) (Nat.le_of_ble_eq_true rfl) dX12_string_2 rfl ?_
  refine uu_ifb_ne (tgt := 18) dX12_string_5 (by decide) (fun c3 => ?_) (fun c3 => ?_)
  · replace h := uu_pos c3 h
    refine uu_aload_n dX12_string_18 rfl (List.mem_of_getElem? (i := 0) rfl) ?_
    refine uu_geti (ci := 12) (N := 153) fX12_340 (by decide) so_1079.is (by decide) (by decide) dX12_string_19 ?_
    refine uu_sipush (v := 300) dX12_string_22 (by decide) ?_
    refine uu_icmp_ne (tgt := 36) dX12_string_25 (by decide) (fun c4 => ?_) (fun c4 => ?_)
    · replace h := uu_neg c4 h
      exact xb_X12_string_36 uk  h
    · replace h := uu_pos c4 h
      refine uu_aload_n dX12_string_28 rfl (List.mem_of_getElem? (i := 0) rfl) ?_
      refine uu_aload_n dX12_string_29 rfl (List.mem_of_getElem? (i := 0) rfl) ?_
      refine uu_geti (ci := 12) (N := 153) fX12_199 (by decide) so_1079.is (by decide) (by decide) dX12_string_30 ?_
      obtain ⟨s5, e6, h⟩ := uu_ob h
      refine uu_cv (d1 := 0) (k := 1079) (ci := 12) (T := TX12) (N := 153) (As := [.int (s.I 1079 32)]) (st := []) (st' := []) (xc_X12_fail uk  e6) so_1079.is (by decide) rfl kX12_fail lX12_208 sX12_fail (by decide) (Nat.le_of_ble_eq_true rfl) dX12_string_33 rfl ?_
      exact xb_X12_string_36 uk  h
  · replace h := uu_neg c3 h
    refine uu_aload_n dX12_string_8 rfl (List.mem_of_getElem? (i := 0) rfl) ?_
    refine uu_aload_n dX12_string_9 rfl (List.mem_of_getElem? (i := 0) rfl) ?_
    refine uu_geti (ci := 12) (N := 153) fX12_199 (by decide) so_1079.is (by decide) (by decide) dX12_string_10 ?_
    obtain ⟨s7, e8, h⟩ := uu_ob h
    refine uu_cv (d1 := 0) (k := 1079) (ci := 12) (T := TX12) (N := 153) (As := [.int (s.I 1079 32)]) (st := []) (st' := []) (xc_X12_fail uk  e8) so_1079.is (by decide) rfl kX12_fail lX12_208 sX12_fail (by decide) (Nat.le_of_ble_eq_true rfl) dX12_string_13 rfl ?_
    refine uu_iconst (v := 0) dX12_string_16 (by decide) ?_
    have hr := Option.some.inj h
    subst hr
    exact uu_iret rfl dX12_string_17
abbrev mX12_taken : hM := (yX12_taken, cX12_taken, 2, (some (.int)))
theorem dX12_taken_0 : decode cX12_taken 0 = .ok (.aload_n 0, 1) := by decide +kernel
theorem kX12_string : h_ml mX12_string 0 := ⟨h_t8 151 rfl rfl, h_t1 16 rfl rfl, ⟨by decide, by decide, by decide +kernel⟩, by decide⟩
theorem lX12_349 : Cond.methodLink RX12 349 mX12_string.1 ∈ lw_g := h_t8 148 rfl rfl
theorem sX12_string : Cond.instanceMethod mX12_string.1 ∈ lw_g ∧ Cond.selects mX12_string.1.cls mX12_string.1 mX12_string.1 ∈ lw_g := ⟨h_t8 150 rfl rfl, h_ins 136 rfl⟩
theorem dX12_taken_1 : decode cX12_taken 1 = .ok (.invokevirtual 349, 3) := by decide +kernel
theorem dX12_taken_4 : decode cX12_taken 4 = .ok (.istore_n 1, 1) := by decide +kernel
theorem dX12_taken_5 : decode cX12_taken 5 = .ok (.aload_n 0, 1) := by decide +kernel
theorem dX12_taken_6 : decode cX12_taken 6 = .ok (.invokevirtual 279, 3) := by decide +kernel
theorem dX12_taken_9 : decode cX12_taken 9 = .ok (.iload_n 1, 1) := by decide +kernel
theorem dX12_taken_10 : decode cX12_taken 10 = .ok (.ireturn, 1) := by decide +kernel
def fn_X12_taken  (s : uS) : Option (uS × Int32) := (fn_X12_string s).bind fun r1 => (fn_X12_next r1.1).bind fun s3 => some (s3, r1.2)
set_option maxRecDepth 100000 in
set_option maxHeartbeats 4000000 in
theorem xc_X12_taken {l : Launch} {D : va_G} {A : Nat → ClassId} {B : Nat} {Z : State → Heap → Prop} {vF : Value} (uk : uK B Z vF)  {s : uS} {r : (uS × Int32)}  (h : fn_X12_taken  s = some r) : CU l D A B Z 8 mX12_taken s [.ref (B + 1079)] (r.1, some (.int r.2)) := by
  unfold fn_X12_taken at h
  refine cu_of rfl uk.1.1 (Nat.le_of_ble_eq_true rfl) ?_
  show GU _ _ _ _ _ _ _ _ _ 0 [(0, .ref (B + 1079))] []
  refine uu_aload_n dX12_taken_0 rfl (List.mem_of_getElem? (i := 0) rfl) ?_
  obtain ⟨r1, e2, h⟩ := uu_ob h
  refine uu_cv (d1 := 1) (k := 1079) (ci := 12) (T := TX12) (N := 153) (As := []) (st := []) (st' := [.int r1.2]) (xc_X12_string uk  e2) so_1079.is (by decide) rfl kX12_string lX12_349 sX12_string (by decide) (Nat.le_of_ble_eq_true rfl) dX12_taken_1 rfl ?_
  refine uu_istore_n dX12_taken_4 rfl (by decide) rfl ?_
  refine uu_aload_n dX12_taken_5 rfl (List.mem_of_getElem? (i := 1) rfl) ?_
  obtain ⟨s3, e4, h⟩ := uu_ob h
  refine uu_cv (d1 := 7) (k := 1079) (ci := 12) (T := TX12) (N := 153) (As := []) (st := []) (st' := []) (xc_X12_next uk  e4) so_1079.is (by decide) rfl kX12_next lX12_279 sX12_next (by decide) (Nat.le_of_ble_eq_true rfl) dX12_taken_6 rfl ?_
  refine uu_iload_n dX12_taken_9 rfl (List.mem_of_getElem? (i := 0) rfl) ?_
  have hr := Option.some.inj h
  subst hr
  exact uu_iret rfl dX12_taken_10
abbrev mX12_list : hM := (yX12_list, cX12_list, 3, (some (.int)))
theorem dX12_list_84 : decode cX12_list 84 = .ok (.aload_n 0, 1) := by decide +kernel
theorem dX12_list_85 : decode cX12_list 85 = .ok (.bipush 93, 2) := by decide +kernel
theorem kX12_take : h_ml mX12_take 1 := ⟨h_t8 171 rfl rfl, h_t1 16 rfl rfl, ⟨by decide, by decide, by decide +kernel⟩, by decide⟩
theorem lX12_355 : Cond.methodLink RX12 355 mX12_take.1 ∈ lw_g := h_t8 168 rfl rfl
theorem sX12_take : Cond.instanceMethod mX12_take.1 ∈ lw_g ∧ Cond.selects mX12_take.1.cls mX12_take.1 mX12_take.1 ∈ lw_g := ⟨h_t8 170 rfl rfl, h_ins 139 rfl⟩
theorem dX12_list_87 : decode cX12_list 87 = .ok (.invokevirtual 355, 3) := by decide +kernel
theorem dX12_list_90 : decode cX12_list 90 = .ok (.iload_n 1, 1) := by decide +kernel
theorem dX12_list_91 : decode cX12_list 91 = .ok (.ireturn, 1) := by decide +kernel
theorem dX12_list_57 : decode cX12_list 57 = .ok (.aload_n 0, 1) := by decide +kernel
theorem kX12_taken : h_ml mX12_taken 0 := ⟨h_t9 8 rfl rfl, h_t1 16 rfl rfl, ⟨by decide, by decide, by decide +kernel⟩, by decide⟩
theorem lX12_352 : Cond.methodLink RX12 352 mX12_taken.1 ∈ lw_g := h_t9 5 rfl rfl
theorem sX12_taken : Cond.instanceMethod mX12_taken.1 ∈ lw_g ∧ Cond.selects mX12_taken.1.cls mX12_taken.1 mX12_taken.1 ∈ lw_g := ⟨h_t9 7 rfl rfl, h_ins 151 rfl⟩
theorem dX12_list_58 : decode cX12_list 58 = .ok (.invokevirtual 352, 3) := by decide +kernel
theorem dX12_list_61 : decode cX12_list 61 = .ok (.pop, 1) := by decide +kernel
theorem dX12_list_62 : decode cX12_list 62 = .ok (.iload_n 1, 1) := by decide +kernel
theorem dX12_list_63 : decode cX12_list 63 = .ok (.iconst 1, 1) := by decide +kernel
theorem dX12_list_64 : decode cX12_list 64 = .ok (.iadd, 1) := by decide +kernel
theorem dX12_list_65 : decode cX12_list 65 = .ok (.istore_n 1, 1) := by decide +kernel
theorem dX12_list_66 : decode cX12_list 66 = .ok (.aload_n 0, 1) := by decide +kernel
theorem dX12_list_67 : decode cX12_list 67 = .ok (.bipush 44, 2) := by decide +kernel
theorem dX12_list_69 : decode cX12_list 69 = .ok (.invokevirtual 276, 3) := by decide +kernel
theorem dX12_list_72 : decode cX12_list 72 = .ok (.istore_n 2, 1) := by decide +kernel
theorem dX12_list_73 : decode cX12_list 73 = .ok (.iload_n 2, 1) := by decide +kernel
theorem dX12_list_74 : decode cX12_list 74 = .ok (.ifCond .eq (-50), 3) := by decide +kernel
theorem dX12_list_77 : decode cX12_list 77 = .ok (.aload_n 0, 1) := by decide +kernel
theorem dX12_list_78 : decode cX12_list 78 = .ok (.invokevirtual 279, 3) := by decide +kernel
theorem dX12_list_81 : decode cX12_list 81 = .ok (.goto (-57), 3) := by decide +kernel
theorem dX12_list_24 : decode cX12_list 24 = .ok (.iload_n 2, 1) := by decide +kernel
theorem dX12_list_25 : decode cX12_list 25 = .ok (.ifCond .eq 59, 3) := by decide +kernel
theorem dX12_list_28 : decode cX12_list 28 = .ok (.aload_n 0, 1) := by decide +kernel
theorem dX12_list_29 : decode cX12_list 29 = .ok (.getfield 193, 3) := by decide +kernel
theorem dX12_list_32 : decode cX12_list 32 = .ok (.ifCond .ge 52, 3) := by decide +kernel
theorem dX12_list_35 : decode cX12_list 35 = .ok (.aload_n 0, 1) := by decide +kernel
theorem dX12_list_36 : decode cX12_list 36 = .ok (.iconst 4, 1) := by decide +kernel
theorem dX12_list_37 : decode cX12_list 37 = .ok (.invokevirtual 273, 3) := by decide +kernel
theorem dX12_list_40 : decode cX12_list 40 = .ok (.ifCond .eq 17, 3) := by decide +kernel
theorem dX12_list_43 : decode cX12_list 43 = .ok (.iload_n 1, 1) := by decide +kernel
theorem dX12_list_44 : decode cX12_list 44 = .ok (.bipush 10, 2) := by decide +kernel
theorem dX12_list_46 : decode cX12_list 46 = .ok (.if_icmp .ne 11, 3) := by decide +kernel
theorem dX12_list_49 : decode cX12_list 49 = .ok (.aload_n 0, 1) := by decide +kernel
theorem dX12_list_50 : decode cX12_list 50 = .ok (.aload_n 0, 1) := by decide +kernel
theorem dX12_list_51 : decode cX12_list 51 = .ok (.getfield 199, 3) := by decide +kernel
theorem dX12_list_54 : decode cX12_list 54 = .ok (.invokevirtual 208, 3) := by decide +kernel
theorem dX12_list_0 : decode cX12_list 0 = .ok (.aload_n 0, 1) := by decide +kernel
theorem dX12_list_1 : decode cX12_list 1 = .ok (.bipush 91, 2) := by decide +kernel
theorem dX12_list_3 : decode cX12_list 3 = .ok (.invokevirtual 276, 3) := by decide +kernel
theorem dX12_list_6 : decode cX12_list 6 = .ok (.ifCond .ne 10, 3) := by decide +kernel
theorem dX12_list_16 : decode cX12_list 16 = .ok (.aload_n 0, 1) := by decide +kernel
theorem dX12_list_17 : decode cX12_list 17 = .ok (.invokevirtual 279, 3) := by decide +kernel
theorem dX12_list_20 : decode cX12_list 20 = .ok (.iconst 0, 1) := by decide +kernel
theorem dX12_list_21 : decode cX12_list 21 = .ok (.istore_n 1, 1) := by decide +kernel
theorem dX12_list_22 : decode cX12_list 22 = .ok (.iconst 1, 1) := by decide +kernel
theorem dX12_list_23 : decode cX12_list 23 = .ok (.istore_n 2, 1) := by decide +kernel
theorem dX12_list_9 : decode cX12_list 9 = .ok (.aload_n 0, 1) := by decide +kernel
theorem dX12_list_10 : decode cX12_list 10 = .ok (.invokevirtual 352, 3) := by decide +kernel
theorem dX12_list_13 : decode cX12_list 13 = .ok (.pop, 1) := by decide +kernel
theorem dX12_list_14 : decode cX12_list 14 = .ok (.iconst 1, 1) := by decide +kernel
theorem dX12_list_15 : decode cX12_list 15 = .ok (.ireturn, 1) := by decide +kernel
def fb_X12_list_84  (x1 : Int32) (s : uS) : Option (uS × Int32) := (fn_X12_take 93 s).bind fun s1 => some (s1, x1)
set_option maxRecDepth 100000 in
set_option maxHeartbeats 4000000 in
theorem xb_X12_list_84 {l : Launch} {D : va_G} {A : Nat → ClassId} {B : Nat} {Z : State → Heap → Prop} {vF : Value} (uk : uK B Z vF)   {x1 : Int32} {s : uS} {r : (uS × Int32)}  (h : fb_X12_list_84  x1 s = some r) : GU l D A B Z mX12_list 9 (r.1, some (.int r.2)) s 84 [(0, .ref (B + 1079)), (1, .int x1)] [] := by
  unfold fb_X12_list_84 at h
  refine uu_aload_n dX12_list_84 rfl (List.mem_of_getElem? (i := 0) rfl) ?_
  refine uu_bipush (v := 93) dX12_list_85 (by decide) ?_
  obtain ⟨s1, e2, h⟩ := uu_ob h
  refine uu_cv (d1 := 8) (k := 1079) (ci := 12) (T := TX12) (N := 153) (As := [.int 93]) (st := []) (st' := []) (xc_X12_take uk  e2) so_1079.is (by decide) rfl kX12_take lX12_355 sX12_take (by decide) (Nat.le_of_ble_eq_true rfl) dX12_list_87 rfl ?_
  refine uu_iload_n dX12_list_90 rfl (List.mem_of_getElem? (i := 1) rfl) ?_
  have hr := Option.some.inj h
  subst hr
  exact uu_iret rfl dX12_list_91
def fb_X12_list_57 (K24 : Int32 → Bool → uS → Option (uS × Int32)) (x1 : Int32) (s : uS) : Option (uS × Int32) := (fn_X12_taken s).bind fun r1 => (fn_X12_isSign 44 r1.1).bind fun v3 => if v3 = true then ((fn_X12_next r1.1).bind fun s6 => K24 (x1 + 1) v3 s6) else (K24 (x1 + 1) v3 r1.1)
set_option maxRecDepth 100000 in
set_option maxHeartbeats 4000000 in
theorem xb_X12_list_57 {l : Launch} {D : va_G} {A : Nat → ClassId} {B : Nat} {Z : State → Heap → Prop} {vF : Value} (uk : uK B Z vF) {K24 : Int32 → Bool → uS → Option (uS × Int32)} (hK24 : ∀ (x1 : Int32) (b2 : Bool)  (s : uS) (r : (uS × Int32)), K24 x1 b2 s = some r → GU l D A B Z mX12_list 9 (r.1, some (.int r.2)) s 24 [(0, .ref (B + 1079)), (1, .int x1), (2, .int (bI b2))] []) {x1 : Int32} {s : uS} {r : (uS × Int32)}  (h : fb_X12_list_57 K24 x1 s = some r) : GU l D A B Z mX12_list 9 (r.1, some (.int r.2)) s 57 [(0, .ref (B + 1079)), (1, .int x1)] [] := by
  unfold fb_X12_list_57 at h
  refine uu_aload_n dX12_list_57 rfl (List.mem_of_getElem? (i := 0) rfl) ?_
  obtain ⟨r1, e2, h⟩ := uu_ob h
  refine uu_cv (d1 := 8) (k := 1079) (ci := 12) (T := TX12) (N := 153) (As := []) (st := []) (st' := [.int r1.2]) (xc_X12_taken uk  e2) so_1079.is (by decide) rfl kX12_taken lX12_352 sX12_taken (by decide) (Nat.le_of_ble_eq_true rfl) dX12_list_58 rfl ?_
  refine uu_pop dX12_list_61 rfl ?_
  refine uu_iload_n dX12_list_62 rfl (List.mem_of_getElem? (i := 1) rfl) ?_
  refine uu_iconst (v := 1) dX12_list_63 (by decide) ?_
  refine uu_iadd dX12_list_64 ?_
  refine uu_istore_n dX12_list_65 rfl (by decide) rfl ?_
  refine uu_aload_n dX12_list_66 rfl (List.mem_of_getElem? (i := 1) rfl) ?_
  refine uu_bipush (v := 44) dX12_list_67 (by decide) ?_
  obtain ⟨v3, e4, h⟩ := uu_ob h
  refine uu_cv (d1 := 1) (k := 1079) (ci := 12) (T := TX12) (N := 153) (As := [.int 44]) (st := []) (st' := [.int (bI v3)]) (xc_X12_isSign uk  e4) so_1079.is (by decide) rfl kX12_isSign lX12_276 sX12_isSign (by decide) (Nat.le_of_ble_eq_true rfl) dX12_list_69 rfl ?_
  refine uu_istore_n dX12_list_72 rfl (by decide) rfl ?_
  refine uu_iload_n dX12_list_73 rfl (List.mem_of_getElem? (i := 0) rfl) ?_
  refine uu_ifb_eq (tgt := 24) dX12_list_74 (by decide) (fun c5 => ?_) (fun c5 => ?_)
  · replace h := uu_neg c5 h
    refine uu_lv [2, 1, 0] (lv' := [(0, .ref (B + 1079)), (1, .int (x1 + 1)), (2, .int (bI v3))]) rfl ?_
    exact hK24 (x1 + 1) v3 _ _ h
  · replace h := uu_pos c5 h
    refine uu_aload_n dX12_list_77 rfl (List.mem_of_getElem? (i := 2) rfl) ?_
    obtain ⟨s6, e7, h⟩ := uu_ob h
    refine uu_cv (d1 := 7) (k := 1079) (ci := 12) (T := TX12) (N := 153) (As := []) (st := []) (st' := []) (xc_X12_next uk  e7) so_1079.is (by decide) rfl kX12_next lX12_279 sX12_next (by decide) (Nat.le_of_ble_eq_true rfl) dX12_list_78 rfl ?_
    refine uu_goto (tgt := 24) dX12_list_81 (by decide) ?_
    refine uu_lv [2, 1, 0] (lv' := [(0, .ref (B + 1079)), (1, .int (x1 + 1)), (2, .int (bI v3))]) rfl ?_
    exact hK24 (x1 + 1) v3 _ _ h
def fb_X12_list_24 (K24 : Int32 → Bool → uS → Option (uS × Int32)) (x1 : Int32) (b2 : Bool) (s : uS) : Option (uS × Int32) := if b2 = true then (if 0 ≤ (s.I 1079 40) then (fb_X12_list_84 x1 s) else ((fn_X12_is 4 s).bind fun v3 => if v3 = true then (if x1 = 10 then ((fn_X12_fail (s.I 1079 32) s).bind fun s7 => fb_X12_list_57 K24 x1 s7) else (fb_X12_list_57 K24 x1 s)) else (fb_X12_list_57 K24 x1 s))) else (fb_X12_list_84 x1 s)
set_option maxRecDepth 100000 in
set_option maxHeartbeats 4000000 in
theorem xb_X12_list_24 {l : Launch} {D : va_G} {A : Nat → ClassId} {B : Nat} {Z : State → Heap → Prop} {vF : Value} (uk : uK B Z vF) {K24 : Int32 → Bool → uS → Option (uS × Int32)} (hK24 : ∀ (x1 : Int32) (b2 : Bool)  (s : uS) (r : (uS × Int32)), K24 x1 b2 s = some r → GU l D A B Z mX12_list 9 (r.1, some (.int r.2)) s 24 [(0, .ref (B + 1079)), (1, .int x1), (2, .int (bI b2))] []) {x1 : Int32} {b2 : Bool} {s : uS} {r : (uS × Int32)}  (h : fb_X12_list_24 K24 x1 b2 s = some r) : GU l D A B Z mX12_list 9 (r.1, some (.int r.2)) s 24 [(0, .ref (B + 1079)), (1, .int x1), (2, .int (bI b2))] [] := by
  unfold fb_X12_list_24 at h
  refine uu_iload_n dX12_list_24 rfl (List.mem_of_getElem? (i := 2) rfl) ?_
  refine uu_ifb_eq (tgt := 84) dX12_list_25 (by decide) (fun c1 => ?_) (fun c1 => ?_)
  · replace h := uu_neg c1 h
    refine uu_lv [0, 1] (lv' := [(0, .ref (B + 1079)), (1, .int x1)]) rfl ?_
    exact xb_X12_list_84 uk  h
  · replace h := uu_pos c1 h
    refine uu_aload_n dX12_list_28 rfl (List.mem_of_getElem? (i := 0) rfl) ?_
    refine uu_geti (ci := 12) (N := 153) fX12_193 (by decide) so_1079.is (by decide) (by decide) dX12_list_29 ?_
    refine uu_if_ge (tgt := 84) dX12_list_32 (by decide) (fun c2 => ?_) (fun c2 => ?_)
    · replace h := uu_pos c2 h
      refine uu_lv [0, 1] (lv' := [(0, .ref (B + 1079)), (1, .int x1)]) rfl ?_
      exact xb_X12_list_84 uk  h
    · replace h := uu_neg c2 h
      refine uu_aload_n dX12_list_35 rfl (List.mem_of_getElem? (i := 0) rfl) ?_
      refine uu_iconst (v := 4) dX12_list_36 (by decide) ?_
      obtain ⟨v3, e4, h⟩ := uu_ob h
      refine uu_cv (d1 := 0) (k := 1079) (ci := 12) (T := TX12) (N := 153) (As := [.int 4]) (st := []) (st' := [.int (bI v3)]) (xc_X12_is uk  e4) so_1079.is (by decide) rfl kX12_is lX12_273 sX12_is (by decide) (Nat.le_of_ble_eq_true rfl) dX12_list_37 rfl ?_
      refine uu_ifb_eq (tgt := 57) dX12_list_40 (by decide) (fun c5 => ?_) (fun c5 => ?_)
      · replace h := uu_neg c5 h
        refine uu_lv [0, 1] (lv' := [(0, .ref (B + 1079)), (1, .int x1)]) rfl ?_
        exact xb_X12_list_57 uk hK24 h
      · replace h := uu_pos c5 h
        refine uu_iload_n dX12_list_43 rfl (List.mem_of_getElem? (i := 1) rfl) ?_
        refine uu_bipush (v := 10) dX12_list_44 (by decide) ?_
        refine uu_icmp_ne (tgt := 57) dX12_list_46 (by decide) (fun c6 => ?_) (fun c6 => ?_)
        · replace h := uu_neg c6 h
          refine uu_lv [0, 1] (lv' := [(0, .ref (B + 1079)), (1, .int x1)]) rfl ?_
          exact xb_X12_list_57 uk hK24 h
        · replace h := uu_pos c6 h
          refine uu_aload_n dX12_list_49 rfl (List.mem_of_getElem? (i := 0) rfl) ?_
          refine uu_aload_n dX12_list_50 rfl (List.mem_of_getElem? (i := 0) rfl) ?_
          refine uu_geti (ci := 12) (N := 153) fX12_199 (by decide) so_1079.is (by decide) (by decide) dX12_list_51 ?_
          obtain ⟨s7, e8, h⟩ := uu_ob h
          refine uu_cv (d1 := 0) (k := 1079) (ci := 12) (T := TX12) (N := 153) (As := [.int (s.I 1079 32)]) (st := []) (st' := []) (xc_X12_fail uk  e8) so_1079.is (by decide) rfl kX12_fail lX12_208 sX12_fail (by decide) (Nat.le_of_ble_eq_true rfl) dX12_list_54 rfl ?_
          refine uu_lv [0, 1] (lv' := [(0, .ref (B + 1079)), (1, .int x1)]) rfl ?_
          exact xb_X12_list_57 uk hK24 h
def fn_X12_list_24  : Nat → Int32 → Bool → uS → Option (uS × Int32)
  | 0 => fun _ _ _ => none
  | n + 1 => fb_X12_list_24 (fn_X12_list_24  n)
set_option maxRecDepth 100000 in
set_option maxHeartbeats 4000000 in
theorem xn_X12_list_24 {l : Launch} {D : va_G} {A : Nat → ClassId} {B : Nat} {Z : State → Heap → Prop} {vF : Value} (uk : uK B Z vF)   : ∀ (n : Nat) (x1 : Int32) (b2 : Bool)  (s : uS) (r : (uS × Int32)), fn_X12_list_24  n x1 b2 s = some r → GU l D A B Z mX12_list 9 (r.1, some (.int r.2)) s 24 [(0, .ref (B + 1079)), (1, .int x1), (2, .int (bI b2))] [] := by
  intro n
  induction n with
  | zero => intro x1 b2 s r h
            cases h
  | succ n ih => intro x1 b2 s r h
                 exact xb_X12_list_24 uk ih  h
def fn_X12_list  (s : uS) : Option (uS × Int32) := (fn_X12_isSign 91 s).bind fun v1 => if v1 = true then ((fn_X12_next s).bind fun s4 => fn_X12_list_24 uFu 0 true s4) else ((fn_X12_taken s).bind fun r6 => some (r6.1, (1 : Int32)))
set_option maxRecDepth 100000 in
set_option maxHeartbeats 4000000 in
theorem xc_X12_list {l : Launch} {D : va_G} {A : Nat → ClassId} {B : Nat} {Z : State → Heap → Prop} {vF : Value} (uk : uK B Z vF)  {s : uS} {r : (uS × Int32)}  (h : fn_X12_list  s = some r) : CU l D A B Z 9 mX12_list s [.ref (B + 1079)] (r.1, some (.int r.2)) := by
  unfold fn_X12_list at h
  refine cu_of rfl uk.1.1 (Nat.le_of_ble_eq_true rfl) ?_
  show GU _ _ _ _ _ _ _ _ _ 0 [(0, .ref (B + 1079))] []
  refine uu_aload_n dX12_list_0 rfl (List.mem_of_getElem? (i := 0) rfl) ?_
  refine uu_bipush (v := 91) dX12_list_1 (by decide) ?_
  obtain ⟨v1, e2, h⟩ := uu_ob h
  refine uu_cv (d1 := 1) (k := 1079) (ci := 12) (T := TX12) (N := 153) (As := [.int 91]) (st := []) (st' := [.int (bI v1)]) (xc_X12_isSign uk  e2) so_1079.is (by decide) rfl kX12_isSign lX12_276 sX12_isSign (by decide) (Nat.le_of_ble_eq_true rfl) dX12_list_3 rfl ?_
  refine uu_ifb_ne (tgt := 16) dX12_list_6 (by decide) (fun c3 => ?_) (fun c3 => ?_)
  · replace h := uu_pos c3 h
    refine uu_aload_n dX12_list_16 rfl (List.mem_of_getElem? (i := 0) rfl) ?_
    obtain ⟨s4, e5, h⟩ := uu_ob h
    refine uu_cv (d1 := 7) (k := 1079) (ci := 12) (T := TX12) (N := 153) (As := []) (st := []) (st' := []) (xc_X12_next uk  e5) so_1079.is (by decide) rfl kX12_next lX12_279 sX12_next (by decide) (Nat.le_of_ble_eq_true rfl) dX12_list_17 rfl ?_
    refine uu_iconst (v := 0) dX12_list_20 (by decide) ?_
    refine uu_istore_n dX12_list_21 rfl (by decide) rfl ?_
    refine uu_iconst (v := 1) dX12_list_22 (by decide) ?_
    refine uu_istore_n dX12_list_23 rfl (by decide) rfl ?_
    refine uu_lv [2, 1, 0] (lv' := [(0, .ref (B + 1079)), (1, .int 0), (2, .int 1)]) rfl ?_
    exact xn_X12_list_24 uk  _ _ _ _ _ h
  · replace h := uu_neg c3 h
    refine uu_aload_n dX12_list_9 rfl (List.mem_of_getElem? (i := 0) rfl) ?_
    obtain ⟨r6, e7, h⟩ := uu_ob h
    refine uu_cv (d1 := 8) (k := 1079) (ci := 12) (T := TX12) (N := 153) (As := []) (st := []) (st' := [.int r6.2]) (xc_X12_taken uk  e7) so_1079.is (by decide) rfl kX12_taken lX12_352 sX12_taken (by decide) (Nat.le_of_ble_eq_true rfl) dX12_list_10 rfl ?_
    refine uu_pop dX12_list_13 rfl ?_
    refine uu_iconst (v := 1) dX12_list_14 (by decide) ?_
    have hr := Option.some.inj h
    subst hr
    exact uu_iret rfl dX12_list_15
abbrev mX12_oneString : hM := (yX12_oneString, cX12_oneString, 3, none)
theorem dX12_oneString_12 : decode cX12_oneString 12 = .ok (.iload_n 2, 1) := by decide +kernel
theorem dX12_oneString_13 : decode cX12_oneString 13 = .ok (.aload_n 0, 1) := by decide +kernel
theorem dX12_oneString_14 : decode cX12_oneString 14 = .ok (.getfield 110, 3) := by decide +kernel
theorem dX12_oneString_17 : decode cX12_oneString 17 = .ok (.if_icmp .ge 28, 3) := by decide +kernel
theorem dX12_oneString_45 : decode cX12_oneString 45 = .ok (.return_, 1) := by decide +kernel
theorem dX12_oneString_20 : decode cX12_oneString 20 = .ok (.aload_n 0, 1) := by decide +kernel
theorem dX12_oneString_21 : decode cX12_oneString 21 = .ok (.getfield 116, 3) := by decide +kernel
theorem dX12_oneString_24 : decode cX12_oneString 24 = .ok (.iload_n 2, 1) := by decide +kernel
theorem dX12_oneString_25 : decode cX12_oneString 25 = .ok (.aload_n 0, 1) := by decide +kernel
theorem dX12_oneString_26 : decode cX12_oneString 26 = .ok (.getfield 260, 3) := by decide +kernel
theorem dX12_oneString_29 : decode cX12_oneString 29 = .ok (.aload_n 0, 1) := by decide +kernel
theorem dX12_oneString_30 : decode cX12_oneString 30 = .ok (.getfield 343, 3) := by decide +kernel
theorem dX12_oneString_33 : decode cX12_oneString 33 = .ok (.iload_n 1, 1) := by decide +kernel
theorem dX12_oneString_34 : decode cX12_oneString 34 = .ok (.iaload, 1) := by decide +kernel
theorem dX12_oneString_35 : decode cX12_oneString 35 = .ok (.iload_n 2, 1) := by decide +kernel
theorem dX12_oneString_36 : decode cX12_oneString 36 = .ok (.iadd, 1) := by decide +kernel
theorem dX12_oneString_37 : decode cX12_oneString 37 = .ok (.iaload, 1) := by decide +kernel
theorem dX12_oneString_38 : decode cX12_oneString 38 = .ok (.iastore, 1) := by decide +kernel
theorem dX12_oneString_39 : decode cX12_oneString 39 = .ok (.iinc 2 1, 3) := by decide +kernel
theorem dX12_oneString_42 : decode cX12_oneString 42 = .ok (.goto (-30), 3) := by decide +kernel
theorem dX12_oneString_0 : decode cX12_oneString 0 = .ok (.aload_n 0, 1) := by decide +kernel
theorem dX12_oneString_1 : decode cX12_oneString 1 = .ok (.aload_n 0, 1) := by decide +kernel
theorem dX12_oneString_2 : decode cX12_oneString 2 = .ok (.getfield 346, 3) := by decide +kernel
theorem dX12_oneString_5 : decode cX12_oneString 5 = .ok (.iload_n 1, 1) := by decide +kernel
theorem dX12_oneString_6 : decode cX12_oneString 6 = .ok (.iaload, 1) := by decide +kernel
theorem dX12_oneString_7 : decode cX12_oneString 7 = .ok (.putfield 110, 3) := by decide +kernel
theorem dX12_oneString_10 : decode cX12_oneString 10 = .ok (.iconst 0, 1) := by decide +kernel
theorem dX12_oneString_11 : decode cX12_oneString 11 = .ok (.istore_n 2, 1) := by decide +kernel
def fb_X12_oneString_12 (K12 : Int32 → Int32 → uS → Option uS) (x1 : Int32) (x2 : Int32) (s : uS) : Option uS := if (s.I 1079 21) ≤ x2 then (some s) else ((iget 20 s 1116 x1).bind fun v2 => (iget 20 s 1097 (v2 + x2)).bind fun v4 => (iput 20 s 1093 x2 v4).bind fun s6 => K12 x1 (x2 + 1) s6)
set_option maxRecDepth 100000 in
set_option maxHeartbeats 4000000 in
theorem xb_X12_oneString_12 {l : Launch} {D : va_G} {A : Nat → ClassId} {B : Nat} {Z : State → Heap → Prop} {vF : Value} (uk : uK B Z vF) {K12 : Int32 → Int32 → uS → Option uS} (hK12 : ∀ (x1 : Int32) (x2 : Int32)  (s : uS) (r : uS), K12 x1 x2 s = some r → GU l D A B Z mX12_oneString 0 (r, none) s 12 [(0, .ref (B + 1079)), (1, .int x1), (2, .int x2)] []) {x1 : Int32} {x2 : Int32} {s : uS} {r : uS}  (h : fb_X12_oneString_12 K12 x1 x2 s = some r) : GU l D A B Z mX12_oneString 0 (r, none) s 12 [(0, .ref (B + 1079)), (1, .int x1), (2, .int x2)] [] := by
  unfold fb_X12_oneString_12 at h
  refine uu_iload_n dX12_oneString_12 rfl (List.mem_of_getElem? (i := 2) rfl) ?_
  refine uu_aload_n dX12_oneString_13 rfl (List.mem_of_getElem? (i := 0) rfl) ?_
  refine uu_geti (ci := 12) (N := 153) fX12_110 (by decide) so_1079.is (by decide) (by decide) dX12_oneString_14 ?_
  refine uu_icmp_ge (tgt := 45) dX12_oneString_17 (by decide) (fun c1 => ?_) (fun c1 => ?_)
  · replace h := uu_pos c1 h
    have hr := Option.some.inj h
    subst hr
    exact uu_vret rfl dX12_oneString_45
  · replace h := uu_neg c1 h
    refine uu_aload_n dX12_oneString_20 rfl (List.mem_of_getElem? (i := 0) rfl) ?_
    refine uu_geta (ci := 12) (N := 153) fX12_116 (by decide) so_1079.is (by decide) (c := 1093) (by decide) dX12_oneString_21 ?_
    refine uu_iload_n dX12_oneString_24 rfl (List.mem_of_getElem? (i := 2) rfl) ?_
    refine uu_aload_n dX12_oneString_25 rfl (List.mem_of_getElem? (i := 0) rfl) ?_
    refine uu_geta (ci := 12) (N := 153) fX12_260 (by decide) so_1079.is (by decide) (c := 1097) (by decide) dX12_oneString_26 ?_
    refine uu_aload_n dX12_oneString_29 rfl (List.mem_of_getElem? (i := 0) rfl) ?_
    refine uu_geta (ci := 12) (N := 153) fX12_343 (by decide) so_1079.is (by decide) (c := 1116) (by decide) dX12_oneString_30 ?_
    refine uu_iload_n dX12_oneString_33 rfl (List.mem_of_getElem? (i := 1) rfl) ?_
    obtain ⟨v2, e3, h⟩ := uu_ob h
    refine uu_iald e3 dX12_oneString_34 ?_
    refine uu_iload_n dX12_oneString_35 rfl (List.mem_of_getElem? (i := 2) rfl) ?_
    refine uu_iadd dX12_oneString_36 ?_
    obtain ⟨v4, e5, h⟩ := uu_ob h
    refine uu_iald e5 dX12_oneString_37 ?_
    obtain ⟨s6, e7, h⟩ := uu_ob h
    refine uu_iast e7 dX12_oneString_38 ?_
    refine uu_iinc (v := x2 + 1) dX12_oneString_39 (k := 2) rfl rfl (by decide) rfl ?_
    refine uu_goto (tgt := 12) dX12_oneString_42 (by decide) ?_
    refine uu_lv [1, 2, 0] (lv' := [(0, .ref (B + 1079)), (1, .int x1), (2, .int (x2 + 1))]) rfl ?_
    exact hK12 x1 (x2 + 1) _ _ h
def fn_X12_oneString_12  : Nat → Int32 → Int32 → uS → Option uS
  | 0 => fun _ _ _ => none
  | n + 1 => fb_X12_oneString_12 (fn_X12_oneString_12  n)
set_option maxRecDepth 100000 in
set_option maxHeartbeats 4000000 in
theorem xn_X12_oneString_12 {l : Launch} {D : va_G} {A : Nat → ClassId} {B : Nat} {Z : State → Heap → Prop} {vF : Value} (uk : uK B Z vF)   : ∀ (n : Nat) (x1 : Int32) (x2 : Int32)  (s : uS) (r : uS), fn_X12_oneString_12  n x1 x2 s = some r → GU l D A B Z mX12_oneString 0 (r, none) s 12 [(0, .ref (B + 1079)), (1, .int x1), (2, .int x2)] [] := by
  intro n
  induction n with
  | zero => intro x1 x2 s r h
            cases h
  | succ n ih => intro x1 x2 s r h
                 exact xb_X12_oneString_12 uk ih  h
def fn_X12_oneString (x1 : Int32) (s : uS) : Option uS := (iget 20 s 1117 x1).bind fun v1 => fn_X12_oneString_12 uFu x1 0 (wI s 1079 21 v1)
set_option maxRecDepth 100000 in
set_option maxHeartbeats 4000000 in
theorem xc_X12_oneString {l : Launch} {D : va_G} {A : Nat → ClassId} {B : Nat} {Z : State → Heap → Prop} {vF : Value} (uk : uK B Z vF) {x1 : Int32} {s : uS} {r : uS}  (h : fn_X12_oneString x1 s = some r) : CU l D A B Z 0 mX12_oneString s [.ref (B + 1079), .int x1] (r, none) := by
  unfold fn_X12_oneString at h
  refine cu_of rfl uk.1.1 (Nat.le_of_ble_eq_true rfl) ?_
  show GU _ _ _ _ _ _ _ _ _ 0 [(0, .ref (B + 1079)), (1, .int x1)] []
  refine uu_aload_n dX12_oneString_0 rfl (List.mem_of_getElem? (i := 0) rfl) ?_
  refine uu_aload_n dX12_oneString_1 rfl (List.mem_of_getElem? (i := 0) rfl) ?_
  refine uu_geta (ci := 12) (N := 153) fX12_346 (by decide) so_1079.is (by decide) (c := 1117) (by decide) dX12_oneString_2 ?_
  refine uu_iload_n dX12_oneString_5 rfl (List.mem_of_getElem? (i := 1) rfl) ?_
  obtain ⟨v1, e2, h⟩ := uu_ob h
  refine uu_iald e2 dX12_oneString_6 ?_
  refine uu_puti (ft := .int) (ci := 12) (N := 153) fX12_110 ptX12 (Or.inl rfl) (by decide) so_1079.is (by decide) (by decide) (by decide +kernel) rfl rfl dX12_oneString_7 ?_
  refine uu_iconst (v := 0) dX12_oneString_10 (by decide) ?_
  refine uu_istore_n dX12_oneString_11 rfl (by decide) rfl ?_
  refine uu_lv [1, 2, 0] (lv' := [(0, .ref (B + 1079)), (1, .int x1), (2, .int 0)]) rfl ?_
  exact xn_X12_oneString_12 uk  _ _ _ _ _ h
abbrev mX12_stringIs : hM := (yX12_stringIs, cX12_stringIs, 5, (some (.boolean)))
theorem dX12_stringIs_22 : decode cX12_stringIs 22 = .ok (.iload 4, 2) := by decide +kernel
theorem dX12_stringIs_24 : decode cX12_stringIs 24 = .ok (.aload_n 2, 1) := by decide +kernel
theorem dX12_stringIs_25 : decode cX12_stringIs 25 = .ok (.invokevirtual 58, 3) := by decide +kernel
theorem dX12_stringIs_28 : decode cX12_stringIs 28 = .ok (.if_icmp .ge 45, 3) := by decide +kernel
theorem dX12_stringIs_73 : decode cX12_stringIs 73 = .ok (.iload_n 3, 1) := by decide +kernel
theorem dX12_stringIs_74 : decode cX12_stringIs 74 = .ok (.ireturn, 1) := by decide +kernel
theorem dX12_stringIs_31 : decode cX12_stringIs 31 = .ok (.iload_n 3, 1) := by decide +kernel
theorem dX12_stringIs_32 : decode cX12_stringIs 32 = .ok (.ifCond .eq 41, 3) := by decide +kernel
theorem dX12_stringIs_35 : decode cX12_stringIs 35 = .ok (.aload_n 0, 1) := by decide +kernel
theorem dX12_stringIs_36 : decode cX12_stringIs 36 = .ok (.getfield 260, 3) := by decide +kernel
theorem dX12_stringIs_39 : decode cX12_stringIs 39 = .ok (.aload_n 0, 1) := by decide +kernel
theorem dX12_stringIs_40 : decode cX12_stringIs 40 = .ok (.getfield 343, 3) := by decide +kernel
theorem dX12_stringIs_43 : decode cX12_stringIs 43 = .ok (.iload_n 1, 1) := by decide +kernel
theorem dX12_stringIs_44 : decode cX12_stringIs 44 = .ok (.iaload, 1) := by decide +kernel
theorem dX12_stringIs_45 : decode cX12_stringIs 45 = .ok (.iload 4, 2) := by decide +kernel
theorem dX12_stringIs_47 : decode cX12_stringIs 47 = .ok (.iadd, 1) := by decide +kernel
theorem dX12_stringIs_48 : decode cX12_stringIs 48 = .ok (.iaload, 1) := by decide +kernel
theorem dX12_stringIs_49 : decode cX12_stringIs 49 = .ok (.invokestatic 119, 3) := by decide +kernel
theorem dX12_stringIs_52 : decode cX12_stringIs 52 = .ok (.aload_n 2, 1) := by decide +kernel
theorem dX12_stringIs_53 : decode cX12_stringIs 53 = .ok (.iload 4, 2) := by decide +kernel
theorem dX12_stringIs_55 : decode cX12_stringIs 55 = .ok (.invokevirtual 64, 3) := by decide +kernel
theorem dX12_stringIs_58 : decode cX12_stringIs 58 = .ok (.if_icmp .ne 7, 3) := by decide +kernel
theorem dX12_stringIs_65 : decode cX12_stringIs 65 = .ok (.iconst 0, 1) := by decide +kernel
theorem dX12_stringIs_66 : decode cX12_stringIs 66 = .ok (.istore_n 3, 1) := by decide +kernel
theorem dX12_stringIs_67 : decode cX12_stringIs 67 = .ok (.iinc 4 1, 3) := by decide +kernel
theorem dX12_stringIs_70 : decode cX12_stringIs 70 = .ok (.goto (-48), 3) := by decide +kernel
theorem dX12_stringIs_61 : decode cX12_stringIs 61 = .ok (.iconst 1, 1) := by decide +kernel
theorem dX12_stringIs_62 : decode cX12_stringIs 62 = .ok (.goto 4, 3) := by decide +kernel
theorem dX12_stringIs_0 : decode cX12_stringIs 0 = .ok (.aload_n 0, 1) := by decide +kernel
theorem dX12_stringIs_1 : decode cX12_stringIs 1 = .ok (.getfield 346, 3) := by decide +kernel
theorem dX12_stringIs_4 : decode cX12_stringIs 4 = .ok (.iload_n 1, 1) := by decide +kernel
theorem dX12_stringIs_5 : decode cX12_stringIs 5 = .ok (.iaload, 1) := by decide +kernel
theorem dX12_stringIs_6 : decode cX12_stringIs 6 = .ok (.aload_n 2, 1) := by decide +kernel
theorem dX12_stringIs_7 : decode cX12_stringIs 7 = .ok (.invokevirtual 58, 3) := by decide +kernel
theorem dX12_stringIs_10 : decode cX12_stringIs 10 = .ok (.if_icmp .ne 7, 3) := by decide +kernel
theorem dX12_stringIs_17 : decode cX12_stringIs 17 = .ok (.iconst 0, 1) := by decide +kernel
theorem dX12_stringIs_18 : decode cX12_stringIs 18 = .ok (.istore_n 3, 1) := by decide +kernel
theorem dX12_stringIs_19 : decode cX12_stringIs 19 = .ok (.iconst 0, 1) := by decide +kernel
theorem dX12_stringIs_20 : decode cX12_stringIs 20 = .ok (.istore 4, 2) := by decide +kernel
theorem dX12_stringIs_13 : decode cX12_stringIs 13 = .ok (.iconst 1, 1) := by decide +kernel
theorem dX12_stringIs_14 : decode cX12_stringIs 14 = .ok (.goto 4, 3) := by decide +kernel
def fb_X12_stringIs_22 (K22 : Int32 → List Nat → Bool → Int32 → uS → Option Bool) (x1 : Int32) (w2 : List Nat) (b3 : Bool) (x4 : Int32) (s : uS) : Option Bool := if (nI w2.length) ≤ x4 then (some b3) else (if b3 = true then ((iget 20 s 1116 x1).bind fun v3 => (iget 20 s 1097 (v3 + x4)).bind fun v5 => (fn_X12_low v5 s).bind fun v7 => (stget w2 x4).bind fun v9 => if v7 = v9 then (K22 x1 w2 true (x4 + 1) s) else (K22 x1 w2 false (x4 + 1) s)) else (some b3))
set_option maxRecDepth 100000 in
set_option maxHeartbeats 4000000 in
theorem xb_X12_stringIs_22 {l : Launch} {D : va_G} {A : Nat → ClassId} {B : Nat} {Z : State → Heap → Prop} {vF : Value} (uk : uK B Z vF) {K22 : Int32 → List Nat → Bool → Int32 → uS → Option Bool} (hK22 : ∀ (x1 : Int32) (w2 : List Nat) (b3 : Bool) (x4 : Int32) {qw2 pw2 : Nat} (hw2 : uStr B Z qw2 pw2 w2) (s : uS) (r : Bool), K22 x1 w2 b3 x4 s = some r → GU l D A B Z mX12_stringIs 4 (s, some (.int (bI r))) s 22 [(0, .ref (B + 1079)), (1, .int x1), (2, .ref qw2), (3, .int (bI b3)), (4, .int x4)] []) {x1 : Int32} {w2 : List Nat} {b3 : Bool} {x4 : Int32} {s : uS} {r : Bool} {qw2 pw2 : Nat} (hw2 : uStr B Z qw2 pw2 w2) (h : fb_X12_stringIs_22 K22 x1 w2 b3 x4 s = some r) : GU l D A B Z mX12_stringIs 4 (s, some (.int (bI r))) s 22 [(0, .ref (B + 1079)), (1, .int x1), (2, .ref qw2), (3, .int (bI b3)), (4, .int x4)] [] := by
  unfold fb_X12_stringIs_22 at h
  refine uu_iload dX12_stringIs_22 (List.mem_of_getElem? (i := 4) rfl) ?_
  refine uu_aload_n dX12_stringIs_24 rfl (List.mem_of_getElem? (i := 2) rfl) ?_
  refine uu_slen uk hw2 lX12_58 (by decide) (Nat.le_of_ble_eq_true rfl) dX12_stringIs_25 ?_
  refine uu_icmp_ge (tgt := 73) dX12_stringIs_28 (by decide) (fun c1 => ?_) (fun c1 => ?_)
  · replace h := uu_pos c1 h
    refine uu_iload_n dX12_stringIs_73 rfl (List.mem_of_getElem? (i := 3) rfl) ?_
    have hr := Option.some.inj h
    subst hr
    exact uu_zret (x := bI b3) rfl (bI_z _) dX12_stringIs_74
  · replace h := uu_neg c1 h
    refine uu_iload_n dX12_stringIs_31 rfl (List.mem_of_getElem? (i := 3) rfl) ?_
    refine uu_ifb_eq (tgt := 73) dX12_stringIs_32 (by decide) (fun c2 => ?_) (fun c2 => ?_)
    · replace h := uu_neg c2 h
      refine uu_iload_n dX12_stringIs_73 rfl (List.mem_of_getElem? (i := 3) rfl) ?_
      have hr := Option.some.inj h
      subst hr
      exact uu_zret (x := bI b3) rfl (bI_z _) dX12_stringIs_74
    · replace h := uu_pos c2 h
      refine uu_aload_n dX12_stringIs_35 rfl (List.mem_of_getElem? (i := 0) rfl) ?_
      refine uu_geta (ci := 12) (N := 153) fX12_260 (by decide) so_1079.is (by decide) (c := 1097) (by decide) dX12_stringIs_36 ?_
      refine uu_aload_n dX12_stringIs_39 rfl (List.mem_of_getElem? (i := 0) rfl) ?_
      refine uu_geta (ci := 12) (N := 153) fX12_343 (by decide) so_1079.is (by decide) (c := 1116) (by decide) dX12_stringIs_40 ?_
      refine uu_iload_n dX12_stringIs_43 rfl (List.mem_of_getElem? (i := 1) rfl) ?_
      obtain ⟨v3, e4, h⟩ := uu_ob h
      refine uu_iald e4 dX12_stringIs_44 ?_
      refine uu_iload dX12_stringIs_45 (List.mem_of_getElem? (i := 4) rfl) ?_
      refine uu_iadd dX12_stringIs_47 ?_
      obtain ⟨v5, e6, h⟩ := uu_ob h
      refine uu_iald e6 dX12_stringIs_48 ?_
      obtain ⟨v7, e8, h⟩ := uu_ob h
      refine uu_cs (d1 := 0) (As := [.int v5]) (st := []) (st' := [.int v7]) (xc_X12_low uk  e8) kX12_low lX12_119 sX12_low (by decide) (Nat.le_of_ble_eq_true rfl) dX12_stringIs_49 rfl ?_
      refine uu_aload_n dX12_stringIs_52 rfl (List.mem_of_getElem? (i := 2) rfl) ?_
      refine uu_iload dX12_stringIs_53 (List.mem_of_getElem? (i := 4) rfl) ?_
      obtain ⟨v9, e10, h⟩ := uu_ob h
      refine uu_sch uk hw2 e10 lX12_64 (by decide) (Nat.le_of_ble_eq_true rfl) dX12_stringIs_55 ?_
      refine uu_icmp_ne (tgt := 65) dX12_stringIs_58 (by decide) (fun c11 => ?_) (fun c11 => ?_)
      · replace h := uu_neg c11 h
        refine uu_iconst (v := 0) dX12_stringIs_65 (by decide) ?_
        refine uu_istore_n dX12_stringIs_66 rfl (by decide) rfl ?_
        refine uu_iinc (v := x4 + 1) dX12_stringIs_67 (k := 4) rfl rfl (by decide) rfl ?_
        refine uu_goto (tgt := 22) dX12_stringIs_70 (by decide) ?_
        refine uu_lv [2, 3, 4, 1, 0] (lv' := [(0, .ref (B + 1079)), (1, .int x1), (2, .ref qw2), (3, .int 0), (4, .int (x4 + 1))]) rfl ?_
        exact hK22 x1 w2 false (x4 + 1) hw2 _ _ h
      · replace h := uu_pos c11 h
        refine uu_iconst (v := 1) dX12_stringIs_61 (by decide) ?_
        refine uu_goto (tgt := 66) dX12_stringIs_62 (by decide) ?_
        refine uu_istore_n dX12_stringIs_66 rfl (by decide) rfl ?_
        refine uu_iinc (v := x4 + 1) dX12_stringIs_67 (k := 4) rfl rfl (by decide) rfl ?_
        refine uu_goto (tgt := 22) dX12_stringIs_70 (by decide) ?_
        refine uu_lv [2, 3, 4, 1, 0] (lv' := [(0, .ref (B + 1079)), (1, .int x1), (2, .ref qw2), (3, .int 1), (4, .int (x4 + 1))]) rfl ?_
        exact hK22 x1 w2 true (x4 + 1) hw2 _ _ h
def fn_X12_stringIs_22  : Nat → Int32 → List Nat → Bool → Int32 → uS → Option Bool
  | 0 => fun _ _ _ _ _ => none
  | n + 1 => fb_X12_stringIs_22 (fn_X12_stringIs_22  n)
set_option maxRecDepth 100000 in
set_option maxHeartbeats 4000000 in
theorem xn_X12_stringIs_22 {l : Launch} {D : va_G} {A : Nat → ClassId} {B : Nat} {Z : State → Heap → Prop} {vF : Value} (uk : uK B Z vF)   : ∀ (n : Nat) (x1 : Int32) (w2 : List Nat) (b3 : Bool) (x4 : Int32) {qw2 pw2 : Nat} (hw2 : uStr B Z qw2 pw2 w2) (s : uS) (r : Bool), fn_X12_stringIs_22  n x1 w2 b3 x4 s = some r → GU l D A B Z mX12_stringIs 4 (s, some (.int (bI r))) s 22 [(0, .ref (B + 1079)), (1, .int x1), (2, .ref qw2), (3, .int (bI b3)), (4, .int x4)] [] := by
  intro n
  induction n with
  | zero => intro x1 w2 b3 x4 qw2 pw2 hw2 s r h
            cases h
  | succ n ih => intro x1 w2 b3 x4 qw2 pw2 hw2 s r h
                 exact xb_X12_stringIs_22 uk ih hw2 h
def fn_X12_stringIs (x1 : Int32) (w2 : List Nat) (s : uS) : Option Bool := (iget 20 s 1117 x1).bind fun v1 => if v1 = (nI w2.length) then (fn_X12_stringIs_22 uFu x1 w2 true 0 s) else (fn_X12_stringIs_22 uFu x1 w2 false 0 s)
set_option maxRecDepth 100000 in
set_option maxHeartbeats 4000000 in
theorem xc_X12_stringIs {l : Launch} {D : va_G} {A : Nat → ClassId} {B : Nat} {Z : State → Heap → Prop} {vF : Value} (uk : uK B Z vF) {x1 : Int32} {w2 : List Nat} {s : uS} {r : Bool} {qw2 pw2 : Nat} (hw2 : uStr B Z qw2 pw2 w2) (h : fn_X12_stringIs x1 w2 s = some r) : CU l D A B Z 4 mX12_stringIs s [.ref (B + 1079), .int x1, .ref qw2] (s, some (.int (bI r))) := by
  unfold fn_X12_stringIs at h
  refine cu_of rfl uk.1.1 (Nat.le_of_ble_eq_true rfl) ?_
  show GU _ _ _ _ _ _ _ _ _ 0 [(0, .ref (B + 1079)), (1, .int x1), (2, .ref qw2)] []
  refine uu_aload_n dX12_stringIs_0 rfl (List.mem_of_getElem? (i := 0) rfl) ?_
  refine uu_geta (ci := 12) (N := 153) fX12_346 (by decide) so_1079.is (by decide) (c := 1117) (by decide) dX12_stringIs_1 ?_
  refine uu_iload_n dX12_stringIs_4 rfl (List.mem_of_getElem? (i := 1) rfl) ?_
  obtain ⟨v1, e2, h⟩ := uu_ob h
  refine uu_iald e2 dX12_stringIs_5 ?_
  refine uu_aload_n dX12_stringIs_6 rfl (List.mem_of_getElem? (i := 2) rfl) ?_
  refine uu_slen uk hw2 lX12_58 (by decide) (Nat.le_of_ble_eq_true rfl) dX12_stringIs_7 ?_
  refine uu_icmp_ne (tgt := 17) dX12_stringIs_10 (by decide) (fun c3 => ?_) (fun c3 => ?_)
  · replace h := uu_neg c3 h
    refine uu_iconst (v := 0) dX12_stringIs_17 (by decide) ?_
    refine uu_istore_n dX12_stringIs_18 rfl (by decide) rfl ?_
    refine uu_iconst (v := 0) dX12_stringIs_19 (by decide) ?_
    refine uu_istore dX12_stringIs_20 (by decide) rfl ?_
    refine uu_lv [2, 3, 4, 1, 0] (lv' := [(0, .ref (B + 1079)), (1, .int x1), (2, .ref qw2), (3, .int 0), (4, .int 0)]) rfl ?_
    exact xn_X12_stringIs_22 uk  _ _ _ _ _ hw2 _ _ h
  · replace h := uu_pos c3 h
    refine uu_iconst (v := 1) dX12_stringIs_13 (by decide) ?_
    refine uu_goto (tgt := 18) dX12_stringIs_14 (by decide) ?_
    refine uu_istore_n dX12_stringIs_18 rfl (by decide) rfl ?_
    refine uu_iconst (v := 0) dX12_stringIs_19 (by decide) ?_
    refine uu_istore dX12_stringIs_20 (by decide) rfl ?_
    refine uu_lv [2, 3, 4, 1, 0] (lv' := [(0, .ref (B + 1079)), (1, .int x1), (2, .ref qw2), (3, .int 1), (4, .int 0)]) rfl ?_
    exact xn_X12_stringIs_22 uk  _ _ _ _ _ hw2 _ _ h
abbrev mX12_relation : hM := (yX12_relation, cX12_relation, 4, none)
theorem dX12_relation_117 : decode cX12_relation 117 = .ok (.aload_n 0, 1) := by decide +kernel
theorem dX12_relation_118 : decode cX12_relation 118 = .ok (.getfield 313, 3) := by decide +kernel
theorem dX12_relation_121 : decode cX12_relation 121 = .ok (.iload_n 1, 1) := by decide +kernel
theorem dX12_relation_122 : decode cX12_relation 122 = .ok (.iload_n 3, 1) := by decide +kernel
theorem dX12_relation_123 : decode cX12_relation 123 = .ok (.iastore, 1) := by decide +kernel
theorem dX12_relation_124 : decode cX12_relation 124 = .ok (.aload_n 0, 1) := by decide +kernel
theorem dX12_relation_125 : decode cX12_relation 125 = .ok (.invokevirtual 279, 3) := by decide +kernel
theorem dX12_relation_128 : decode cX12_relation 128 = .ok (.return_, 1) := by decide +kernel
theorem dX12_relation_104 : decode cX12_relation 104 = .ok (.istore_n 3, 1) := by decide +kernel
theorem dX12_relation_105 : decode cX12_relation 105 = .ok (.iload_n 3, 1) := by decide +kernel
theorem dX12_relation_106 : decode cX12_relation 106 = .ok (.ifCond .ge 11, 3) := by decide +kernel
theorem dX12_relation_109 : decode cX12_relation 109 = .ok (.aload_n 0, 1) := by decide +kernel
theorem dX12_relation_110 : decode cX12_relation 110 = .ok (.aload_n 0, 1) := by decide +kernel
theorem dX12_relation_111 : decode cX12_relation 111 = .ok (.getfield 199, 3) := by decide +kernel
theorem dX12_relation_114 : decode cX12_relation 114 = .ok (.invokevirtual 208, 3) := by decide +kernel
theorem dX12_relation_0 : decode cX12_relation 0 = .ok (.aload_n 0, 1) := by decide +kernel
theorem dX12_relation_1 : decode cX12_relation 1 = .ok (.invokevirtual 349, 3) := by decide +kernel
theorem dX12_relation_4 : decode cX12_relation 4 = .ok (.istore_n 2, 1) := by decide +kernel
theorem dX12_relation_5 : decode cX12_relation 5 = .ok (.aload_n 0, 1) := by decide +kernel
theorem dX12_relation_6 : decode cX12_relation 6 = .ok (.getfield 193, 3) := by decide +kernel
theorem dX12_relation_9 : decode cX12_relation 9 = .ok (.ifCond .lt 4, 3) := by decide +kernel
theorem dX12_relation_13 : decode cX12_relation 13 = .ok (.aload_n 0, 1) := by decide +kernel
theorem dX12_relation_14 : decode cX12_relation 14 = .ok (.iload_n 2, 1) := by decide +kernel
theorem dX12_relation_15 : decode cX12_relation 15 = .ok (.ldc_w 534, 3) := by decide +kernel
theorem kX12_stringIs : h_ml mX12_stringIs 2 := ⟨h_t8 160 rfl rfl, h_t1 16 rfl rfl, ⟨by decide, by decide, by decide +kernel⟩, by decide⟩
theorem lX12_382 : Cond.methodLink RX12 382 mX12_stringIs.1 ∈ lw_g := h_t8 157 rfl rfl
theorem sX12_stringIs : Cond.instanceMethod mX12_stringIs.1 ∈ lw_g ∧ Cond.selects mX12_stringIs.1.cls mX12_stringIs.1 mX12_stringIs.1 ∈ lw_g := ⟨h_t8 159 rfl rfl, h_ins 138 rfl⟩
theorem dX12_relation_18 : decode cX12_relation 18 = .ok (.invokevirtual 382, 3) := by decide +kernel
theorem dX12_relation_21 : decode cX12_relation 21 = .ok (.ifCond .eq 7, 3) := by decide +kernel
theorem dX12_relation_28 : decode cX12_relation 28 = .ok (.aload_n 0, 1) := by decide +kernel
theorem dX12_relation_29 : decode cX12_relation 29 = .ok (.iload_n 2, 1) := by decide +kernel
theorem dX12_relation_30 : decode cX12_relation 30 = .ok (.ldc_w 536, 3) := by decide +kernel
theorem dX12_relation_33 : decode cX12_relation 33 = .ok (.invokevirtual 382, 3) := by decide +kernel
theorem dX12_relation_36 : decode cX12_relation 36 = .ok (.ifCond .eq 7, 3) := by decide +kernel
theorem dX12_relation_43 : decode cX12_relation 43 = .ok (.aload_n 0, 1) := by decide +kernel
theorem dX12_relation_44 : decode cX12_relation 44 = .ok (.iload_n 2, 1) := by decide +kernel
theorem dX12_relation_45 : decode cX12_relation 45 = .ok (.ldc_w 538, 3) := by decide +kernel
theorem dX12_relation_48 : decode cX12_relation 48 = .ok (.invokevirtual 382, 3) := by decide +kernel
theorem dX12_relation_51 : decode cX12_relation 51 = .ok (.ifCond .eq 7, 3) := by decide +kernel
theorem dX12_relation_58 : decode cX12_relation 58 = .ok (.aload_n 0, 1) := by decide +kernel
theorem dX12_relation_59 : decode cX12_relation 59 = .ok (.iload_n 2, 1) := by decide +kernel
theorem dX12_relation_60 : decode cX12_relation 60 = .ok (.ldc_w 540, 3) := by decide +kernel
theorem dX12_relation_63 : decode cX12_relation 63 = .ok (.invokevirtual 382, 3) := by decide +kernel
theorem dX12_relation_66 : decode cX12_relation 66 = .ok (.ifCond .eq 7, 3) := by decide +kernel
theorem dX12_relation_73 : decode cX12_relation 73 = .ok (.aload_n 0, 1) := by decide +kernel
theorem dX12_relation_74 : decode cX12_relation 74 = .ok (.iload_n 2, 1) := by decide +kernel
theorem dX12_relation_75 : decode cX12_relation 75 = .ok (.ldc_w 542, 3) := by decide +kernel
theorem dX12_relation_78 : decode cX12_relation 78 = .ok (.invokevirtual 382, 3) := by decide +kernel
theorem dX12_relation_81 : decode cX12_relation 81 = .ok (.ifCond .eq 7, 3) := by decide +kernel
theorem dX12_relation_88 : decode cX12_relation 88 = .ok (.aload_n 0, 1) := by decide +kernel
theorem dX12_relation_89 : decode cX12_relation 89 = .ok (.iload_n 2, 1) := by decide +kernel
theorem dX12_relation_90 : decode cX12_relation 90 = .ok (.ldc_w 544, 3) := by decide +kernel
theorem dX12_relation_93 : decode cX12_relation 93 = .ok (.invokevirtual 382, 3) := by decide +kernel
theorem dX12_relation_96 : decode cX12_relation 96 = .ok (.ifCond .eq 7, 3) := by decide +kernel
theorem dX12_relation_103 : decode cX12_relation 103 = .ok (.iconst (-1), 1) := by decide +kernel
theorem dX12_relation_99 : decode cX12_relation 99 = .ok (.iconst 5, 1) := by decide +kernel
theorem dX12_relation_100 : decode cX12_relation 100 = .ok (.goto 4, 3) := by decide +kernel
theorem dX12_relation_84 : decode cX12_relation 84 = .ok (.iconst 4, 1) := by decide +kernel
theorem dX12_relation_85 : decode cX12_relation 85 = .ok (.goto 19, 3) := by decide +kernel
theorem dX12_relation_69 : decode cX12_relation 69 = .ok (.iconst 3, 1) := by decide +kernel
theorem dX12_relation_70 : decode cX12_relation 70 = .ok (.goto 34, 3) := by decide +kernel
theorem dX12_relation_54 : decode cX12_relation 54 = .ok (.iconst 2, 1) := by decide +kernel
theorem dX12_relation_55 : decode cX12_relation 55 = .ok (.goto 49, 3) := by decide +kernel
theorem dX12_relation_39 : decode cX12_relation 39 = .ok (.iconst 1, 1) := by decide +kernel
theorem dX12_relation_40 : decode cX12_relation 40 = .ok (.goto 64, 3) := by decide +kernel
theorem dX12_relation_24 : decode cX12_relation 24 = .ok (.iconst 0, 1) := by decide +kernel
theorem dX12_relation_25 : decode cX12_relation 25 = .ok (.goto 79, 3) := by decide +kernel
theorem dX12_relation_12 : decode cX12_relation 12 = .ok (.return_, 1) := by decide +kernel
def fb_X12_relation_117  (x1 : Int32) (x3 : Int32) (s : uS) : Option uS := (iput 20 s 1110 x1 x3).bind fun s1 => (fn_X12_next s1).bind fun s3 => some s3
set_option maxRecDepth 100000 in
set_option maxHeartbeats 4000000 in
theorem xb_X12_relation_117 {l : Launch} {D : va_G} {A : Nat → ClassId} {B : Nat} {Z : State → Heap → Prop} {vF : Value} (uk : uK B Z vF)   {x1 : Int32} {x3 : Int32} {s : uS} {r : uS}  (h : fb_X12_relation_117  x1 x3 s = some r) : GU l D A B Z mX12_relation 8 (r, none) s 117 [(0, .ref (B + 1079)), (1, .int x1), (3, .int x3)] [] := by
  unfold fb_X12_relation_117 at h
  refine uu_aload_n dX12_relation_117 rfl (List.mem_of_getElem? (i := 0) rfl) ?_
  refine uu_geta (ci := 12) (N := 153) fX12_313 (by decide) so_1079.is (by decide) (c := 1110) (by decide) dX12_relation_118 ?_
  refine uu_iload_n dX12_relation_121 rfl (List.mem_of_getElem? (i := 1) rfl) ?_
  refine uu_iload_n dX12_relation_122 rfl (List.mem_of_getElem? (i := 2) rfl) ?_
  obtain ⟨s1, e2, h⟩ := uu_ob h
  refine uu_iast e2 dX12_relation_123 ?_
  refine uu_aload_n dX12_relation_124 rfl (List.mem_of_getElem? (i := 0) rfl) ?_
  obtain ⟨s3, e4, h⟩ := uu_ob h
  refine uu_cv (d1 := 7) (k := 1079) (ci := 12) (T := TX12) (N := 153) (As := []) (st := []) (st' := []) (xc_X12_next uk  e4) so_1079.is (by decide) rfl kX12_next lX12_279 sX12_next (by decide) (Nat.le_of_ble_eq_true rfl) dX12_relation_125 rfl ?_
  have hr := Option.some.inj h
  subst hr
  exact uu_vret rfl dX12_relation_128
def fb_X12_relation_104  (x1 : Int32) (xs0 : Int32) (s : uS) : Option uS := if 0 ≤ xs0 then (fb_X12_relation_117 x1 xs0 s) else ((fn_X12_fail (s.I 1079 32) s).bind fun s2 => fb_X12_relation_117 x1 xs0 s2)
set_option maxRecDepth 100000 in
set_option maxHeartbeats 4000000 in
theorem xb_X12_relation_104 {l : Launch} {D : va_G} {A : Nat → ClassId} {B : Nat} {Z : State → Heap → Prop} {vF : Value} (uk : uK B Z vF)   {x1 : Int32} {xs0 : Int32} {s : uS} {r : uS}  (h : fb_X12_relation_104  x1 xs0 s = some r) : GU l D A B Z mX12_relation 8 (r, none) s 104 [(0, .ref (B + 1079)), (1, .int x1)] [.int xs0] := by
  unfold fb_X12_relation_104 at h
  refine uu_istore_n dX12_relation_104 rfl (by decide) rfl ?_
  refine uu_iload_n dX12_relation_105 rfl (List.mem_of_getElem? (i := 0) rfl) ?_
  refine uu_if_ge (tgt := 117) dX12_relation_106 (by decide) (fun c1 => ?_) (fun c1 => ?_)
  · replace h := uu_pos c1 h
    refine uu_lv [1, 2, 0] (lv' := [(0, .ref (B + 1079)), (1, .int x1), (3, .int xs0)]) rfl ?_
    exact xb_X12_relation_117 uk  h
  · replace h := uu_neg c1 h
    refine uu_aload_n dX12_relation_109 rfl (List.mem_of_getElem? (i := 1) rfl) ?_
    refine uu_aload_n dX12_relation_110 rfl (List.mem_of_getElem? (i := 1) rfl) ?_
    refine uu_geti (ci := 12) (N := 153) fX12_199 (by decide) so_1079.is (by decide) (by decide) dX12_relation_111 ?_
    obtain ⟨s2, e3, h⟩ := uu_ob h
    refine uu_cv (d1 := 0) (k := 1079) (ci := 12) (T := TX12) (N := 153) (As := [.int (s.I 1079 32)]) (st := []) (st' := []) (xc_X12_fail uk  e3) so_1079.is (by decide) rfl kX12_fail lX12_208 sX12_fail (by decide) (Nat.le_of_ble_eq_true rfl) dX12_relation_114 rfl ?_
    refine uu_lv [1, 2, 0] (lv' := [(0, .ref (B + 1079)), (1, .int x1), (3, .int xs0)]) rfl ?_
    exact xb_X12_relation_117 uk  h
def fn_X12_relation (x1 : Int32) (s : uS) : Option uS := (fn_X12_string s).bind fun r1 => if (r1.1.I 1079 40) < 0 then ((fn_X12_stringIs r1.2 kW_121 r1.1).bind fun v5 => if v5 = true then (fb_X12_relation_104 x1 0 r1.1) else ((fn_X12_stringIs r1.2 kW_122 r1.1).bind fun v9 => if v9 = true then (fb_X12_relation_104 x1 1 r1.1) else ((fn_X12_stringIs r1.2 kW_123 r1.1).bind fun v13 => if v13 = true then (fb_X12_relation_104 x1 2 r1.1) else ((fn_X12_stringIs r1.2 kW_124 r1.1).bind fun v17 => if v17 = true then (fb_X12_relation_104 x1 3 r1.1) else ((fn_X12_stringIs r1.2 kW_125 r1.1).bind fun v21 => if v21 = true then (fb_X12_relation_104 x1 4 r1.1) else ((fn_X12_stringIs r1.2 kW_126 r1.1).bind fun v25 => if v25 = true then (fb_X12_relation_104 x1 5 r1.1) else (fb_X12_relation_104 x1 (-1) r1.1))))))) else (some r1.1)
set_option maxRecDepth 100000 in
set_option maxHeartbeats 4000000 in
theorem xc_X12_relation {l : Launch} {D : va_G} {A : Nat → ClassId} {B : Nat} {Z : State → Heap → Prop} {vF : Value} (uk : uK B Z vF) {x1 : Int32} {s : uS} {r : uS}  (h : fn_X12_relation x1 s = some r) : CU l D A B Z 8 mX12_relation s [.ref (B + 1079), .int x1] (r, none) := by
  unfold fn_X12_relation at h
  refine cu_of rfl uk.1.1 (Nat.le_of_ble_eq_true rfl) ?_
  show GU _ _ _ _ _ _ _ _ _ 0 [(0, .ref (B + 1079)), (1, .int x1)] []
  refine uu_aload_n dX12_relation_0 rfl (List.mem_of_getElem? (i := 0) rfl) ?_
  obtain ⟨r1, e2, h⟩ := uu_ob h
  refine uu_cv (d1 := 1) (k := 1079) (ci := 12) (T := TX12) (N := 153) (As := []) (st := []) (st' := [.int r1.2]) (xc_X12_string uk  e2) so_1079.is (by decide) rfl kX12_string lX12_349 sX12_string (by decide) (Nat.le_of_ble_eq_true rfl) dX12_relation_1 rfl ?_
  refine uu_istore_n dX12_relation_4 rfl (by decide) rfl ?_
  refine uu_aload_n dX12_relation_5 rfl (List.mem_of_getElem? (i := 1) rfl) ?_
  refine uu_geti (ci := 12) (N := 153) fX12_193 (by decide) so_1079.is (by decide) (by decide) dX12_relation_6 ?_
  refine uu_if_lt (tgt := 13) dX12_relation_9 (by decide) (fun c3 => ?_) (fun c3 => ?_)
  · replace h := uu_pos c3 h
    refine uu_aload_n dX12_relation_13 rfl (List.mem_of_getElem? (i := 1) rfl) ?_
    refine uu_iload_n dX12_relation_14 rfl (List.mem_of_getElem? (i := 0) rfl) ?_
    obtain ⟨cq4, cp4, cv4, cw4⟩ := uk.2.1 121 _ rfl
    refine uu_ldcwS cv4 dX12_relation_15 ?_
    obtain ⟨v5, e6, h⟩ := uu_ob h
    refine uu_cv (d1 := 4) (k := 1079) (ci := 12) (T := TX12) (N := 153) (As := [.int r1.2, .ref cq4]) (st := []) (st' := [.int (bI v5)]) (xc_X12_stringIs uk cw4 e6) so_1079.is (by decide) rfl kX12_stringIs lX12_382 sX12_stringIs (by decide) (Nat.le_of_ble_eq_true rfl) dX12_relation_18 rfl ?_
    refine uu_ifb_eq (tgt := 28) dX12_relation_21 (by decide) (fun c7 => ?_) (fun c7 => ?_)
    · replace h := uu_neg c7 h
      refine uu_aload_n dX12_relation_28 rfl (List.mem_of_getElem? (i := 1) rfl) ?_
      refine uu_iload_n dX12_relation_29 rfl (List.mem_of_getElem? (i := 0) rfl) ?_
      obtain ⟨cq8, cp8, cv8, cw8⟩ := uk.2.1 122 _ rfl
      refine uu_ldcwS cv8 dX12_relation_30 ?_
      obtain ⟨v9, e10, h⟩ := uu_ob h
      refine uu_cv (d1 := 4) (k := 1079) (ci := 12) (T := TX12) (N := 153) (As := [.int r1.2, .ref cq8]) (st := []) (st' := [.int (bI v9)]) (xc_X12_stringIs uk cw8 e10) so_1079.is (by decide) rfl kX12_stringIs lX12_382 sX12_stringIs (by decide) (Nat.le_of_ble_eq_true rfl) dX12_relation_33 rfl ?_
      refine uu_ifb_eq (tgt := 43) dX12_relation_36 (by decide) (fun c11 => ?_) (fun c11 => ?_)
      · replace h := uu_neg c11 h
        refine uu_aload_n dX12_relation_43 rfl (List.mem_of_getElem? (i := 1) rfl) ?_
        refine uu_iload_n dX12_relation_44 rfl (List.mem_of_getElem? (i := 0) rfl) ?_
        obtain ⟨cq12, cp12, cv12, cw12⟩ := uk.2.1 123 _ rfl
        refine uu_ldcwS cv12 dX12_relation_45 ?_
        obtain ⟨v13, e14, h⟩ := uu_ob h
        refine uu_cv (d1 := 4) (k := 1079) (ci := 12) (T := TX12) (N := 153) (As := [.int r1.2, .ref cq12]) (st := []) (st' := [.int (bI v13)]) (xc_X12_stringIs uk cw12 e14) so_1079.is (by decide) rfl kX12_stringIs lX12_382 sX12_stringIs (by decide) (Nat.le_of_ble_eq_true rfl) dX12_relation_48 rfl ?_
        refine uu_ifb_eq (tgt := 58) dX12_relation_51 (by decide) (fun c15 => ?_) (fun c15 => ?_)
        · replace h := uu_neg c15 h
          refine uu_aload_n dX12_relation_58 rfl (List.mem_of_getElem? (i := 1) rfl) ?_
          refine uu_iload_n dX12_relation_59 rfl (List.mem_of_getElem? (i := 0) rfl) ?_
          obtain ⟨cq16, cp16, cv16, cw16⟩ := uk.2.1 124 _ rfl
          refine uu_ldcwS cv16 dX12_relation_60 ?_
          obtain ⟨v17, e18, h⟩ := uu_ob h
          refine uu_cv (d1 := 4) (k := 1079) (ci := 12) (T := TX12) (N := 153) (As := [.int r1.2, .ref cq16]) (st := []) (st' := [.int (bI v17)]) (xc_X12_stringIs uk cw16 e18) so_1079.is (by decide) rfl kX12_stringIs lX12_382 sX12_stringIs (by decide) (Nat.le_of_ble_eq_true rfl) dX12_relation_63 rfl ?_
          refine uu_ifb_eq (tgt := 73) dX12_relation_66 (by decide) (fun c19 => ?_) (fun c19 => ?_)
          · replace h := uu_neg c19 h
            refine uu_aload_n dX12_relation_73 rfl (List.mem_of_getElem? (i := 1) rfl) ?_
            refine uu_iload_n dX12_relation_74 rfl (List.mem_of_getElem? (i := 0) rfl) ?_
            obtain ⟨cq20, cp20, cv20, cw20⟩ := uk.2.1 125 _ rfl
            refine uu_ldcwS cv20 dX12_relation_75 ?_
            obtain ⟨v21, e22, h⟩ := uu_ob h
            refine uu_cv (d1 := 4) (k := 1079) (ci := 12) (T := TX12) (N := 153) (As := [.int r1.2, .ref cq20]) (st := []) (st' := [.int (bI v21)]) (xc_X12_stringIs uk cw20 e22) so_1079.is (by decide) rfl kX12_stringIs lX12_382 sX12_stringIs (by decide) (Nat.le_of_ble_eq_true rfl) dX12_relation_78 rfl ?_
            refine uu_ifb_eq (tgt := 88) dX12_relation_81 (by decide) (fun c23 => ?_) (fun c23 => ?_)
            · replace h := uu_neg c23 h
              refine uu_aload_n dX12_relation_88 rfl (List.mem_of_getElem? (i := 1) rfl) ?_
              refine uu_iload_n dX12_relation_89 rfl (List.mem_of_getElem? (i := 0) rfl) ?_
              obtain ⟨cq24, cp24, cv24, cw24⟩ := uk.2.1 126 _ rfl
              refine uu_ldcwS cv24 dX12_relation_90 ?_
              obtain ⟨v25, e26, h⟩ := uu_ob h
              refine uu_cv (d1 := 4) (k := 1079) (ci := 12) (T := TX12) (N := 153) (As := [.int r1.2, .ref cq24]) (st := []) (st' := [.int (bI v25)]) (xc_X12_stringIs uk cw24 e26) so_1079.is (by decide) rfl kX12_stringIs lX12_382 sX12_stringIs (by decide) (Nat.le_of_ble_eq_true rfl) dX12_relation_93 rfl ?_
              refine uu_ifb_eq (tgt := 103) dX12_relation_96 (by decide) (fun c27 => ?_) (fun c27 => ?_)
              · replace h := uu_neg c27 h
                refine uu_iconst (v := -1) dX12_relation_103 (by decide) ?_
                refine uu_lv [1, 2] (lv' := [(0, .ref (B + 1079)), (1, .int x1)]) rfl ?_
                exact xb_X12_relation_104 uk  h
              · replace h := uu_pos c27 h
                refine uu_iconst (v := 5) dX12_relation_99 (by decide) ?_
                refine uu_goto (tgt := 104) dX12_relation_100 (by decide) ?_
                refine uu_lv [1, 2] (lv' := [(0, .ref (B + 1079)), (1, .int x1)]) rfl ?_
                exact xb_X12_relation_104 uk  h
            · replace h := uu_pos c23 h
              refine uu_iconst (v := 4) dX12_relation_84 (by decide) ?_
              refine uu_goto (tgt := 104) dX12_relation_85 (by decide) ?_
              refine uu_lv [1, 2] (lv' := [(0, .ref (B + 1079)), (1, .int x1)]) rfl ?_
              exact xb_X12_relation_104 uk  h
          · replace h := uu_pos c19 h
            refine uu_iconst (v := 3) dX12_relation_69 (by decide) ?_
            refine uu_goto (tgt := 104) dX12_relation_70 (by decide) ?_
            refine uu_lv [1, 2] (lv' := [(0, .ref (B + 1079)), (1, .int x1)]) rfl ?_
            exact xb_X12_relation_104 uk  h
        · replace h := uu_pos c15 h
          refine uu_iconst (v := 2) dX12_relation_54 (by decide) ?_
          refine uu_goto (tgt := 104) dX12_relation_55 (by decide) ?_
          refine uu_lv [1, 2] (lv' := [(0, .ref (B + 1079)), (1, .int x1)]) rfl ?_
          exact xb_X12_relation_104 uk  h
      · replace h := uu_pos c11 h
        refine uu_iconst (v := 1) dX12_relation_39 (by decide) ?_
        refine uu_goto (tgt := 104) dX12_relation_40 (by decide) ?_
        refine uu_lv [1, 2] (lv' := [(0, .ref (B + 1079)), (1, .int x1)]) rfl ?_
        exact xb_X12_relation_104 uk  h
    · replace h := uu_pos c7 h
      refine uu_iconst (v := 0) dX12_relation_24 (by decide) ?_
      refine uu_goto (tgt := 104) dX12_relation_25 (by decide) ?_
      refine uu_lv [1, 2] (lv' := [(0, .ref (B + 1079)), (1, .int x1)]) rfl ?_
      exact xb_X12_relation_104 uk  h
  · replace h := uu_neg c3 h
    have hr := Option.some.inj h
    subst hr
    exact uu_vret rfl dX12_relation_12
abbrev mX12_compared : hM := (yX12_compared, cX12_compared, 4, none)
theorem dX12_compared_84 : decode cX12_compared 84 = .ok (.aload_n 0, 1) := by decide +kernel
theorem dX12_compared_85 : decode cX12_compared 85 = .ok (.getfield 316, 3) := by decide +kernel
theorem dX12_compared_88 : decode cX12_compared 88 = .ok (.iload_n 1, 1) := by decide +kernel
theorem dX12_compared_89 : decode cX12_compared 89 = .ok (.iload_n 3, 1) := by decide +kernel
theorem dX12_compared_90 : decode cX12_compared 90 = .ok (.iastore, 1) := by decide +kernel
theorem dX12_compared_91 : decode cX12_compared 91 = .ok (.aload_n 0, 1) := by decide +kernel
theorem dX12_compared_92 : decode cX12_compared 92 = .ok (.invokevirtual 279, 3) := by decide +kernel
theorem dX12_compared_95 : decode cX12_compared 95 = .ok (.return_, 1) := by decide +kernel
theorem dX12_compared_72 : decode cX12_compared 72 = .ok (.iload_n 3, 1) := by decide +kernel
theorem dX12_compared_73 : decode cX12_compared 73 = .ok (.iconst 2, 1) := by decide +kernel
theorem dX12_compared_74 : decode cX12_compared 74 = .ok (.if_icmp .ne 10, 3) := by decide +kernel
theorem dX12_compared_77 : decode cX12_compared 77 = .ok (.aload_n 0, 1) := by decide +kernel
theorem dX12_compared_78 : decode cX12_compared 78 = .ok (.sipush 128, 3) := by decide +kernel
theorem kX12_needs : h_ml mX12_needs 1 := ⟨h_t8 210 rfl rfl, h_t1 16 rfl rfl, ⟨by decide, by decide, by decide +kernel⟩, by decide⟩
theorem lX12_431 : Cond.methodLink RX12 431 mX12_needs.1 ∈ lw_g := h_t8 207 rfl rfl
theorem sX12_needs : Cond.instanceMethod mX12_needs.1 ∈ lw_g ∧ Cond.selects mX12_needs.1.cls mX12_needs.1 mX12_needs.1 ∈ lw_g := ⟨h_t8 209 rfl rfl, h_ins 146 rfl⟩
theorem dX12_compared_81 : decode cX12_compared 81 = .ok (.invokevirtual 431, 3) := by decide +kernel
theorem dX12_compared_59 : decode cX12_compared 59 = .ok (.istore_n 3, 1) := by decide +kernel
theorem dX12_compared_60 : decode cX12_compared 60 = .ok (.iload_n 3, 1) := by decide +kernel
theorem dX12_compared_61 : decode cX12_compared 61 = .ok (.ifCond .ge 11, 3) := by decide +kernel
theorem dX12_compared_64 : decode cX12_compared 64 = .ok (.aload_n 0, 1) := by decide +kernel
theorem dX12_compared_65 : decode cX12_compared 65 = .ok (.aload_n 0, 1) := by decide +kernel
theorem dX12_compared_66 : decode cX12_compared 66 = .ok (.getfield 199, 3) := by decide +kernel
theorem dX12_compared_69 : decode cX12_compared 69 = .ok (.invokevirtual 208, 3) := by decide +kernel
theorem dX12_compared_0 : decode cX12_compared 0 = .ok (.aload_n 0, 1) := by decide +kernel
theorem dX12_compared_1 : decode cX12_compared 1 = .ok (.invokevirtual 349, 3) := by decide +kernel
theorem dX12_compared_4 : decode cX12_compared 4 = .ok (.istore_n 2, 1) := by decide +kernel
theorem dX12_compared_5 : decode cX12_compared 5 = .ok (.aload_n 0, 1) := by decide +kernel
theorem dX12_compared_6 : decode cX12_compared 6 = .ok (.getfield 193, 3) := by decide +kernel
theorem dX12_compared_9 : decode cX12_compared 9 = .ok (.ifCond .lt 4, 3) := by decide +kernel
theorem dX12_compared_13 : decode cX12_compared 13 = .ok (.aload_n 0, 1) := by decide +kernel
theorem dX12_compared_14 : decode cX12_compared 14 = .ok (.iload_n 2, 1) := by decide +kernel
theorem dX12_compared_15 : decode cX12_compared 15 = .ok (.ldc_w 546, 3) := by decide +kernel
theorem dX12_compared_18 : decode cX12_compared 18 = .ok (.invokevirtual 382, 3) := by decide +kernel
theorem dX12_compared_21 : decode cX12_compared 21 = .ok (.ifCond .eq 7, 3) := by decide +kernel
theorem dX12_compared_28 : decode cX12_compared 28 = .ok (.aload_n 0, 1) := by decide +kernel
theorem dX12_compared_29 : decode cX12_compared 29 = .ok (.iload_n 2, 1) := by decide +kernel
theorem dX12_compared_30 : decode cX12_compared 30 = .ok (.ldc_w 548, 3) := by decide +kernel
theorem dX12_compared_33 : decode cX12_compared 33 = .ok (.invokevirtual 382, 3) := by decide +kernel
theorem dX12_compared_36 : decode cX12_compared 36 = .ok (.ifCond .eq 7, 3) := by decide +kernel
theorem dX12_compared_43 : decode cX12_compared 43 = .ok (.aload_n 0, 1) := by decide +kernel
theorem dX12_compared_44 : decode cX12_compared 44 = .ok (.iload_n 2, 1) := by decide +kernel
theorem dX12_compared_45 : decode cX12_compared 45 = .ok (.ldc_w 550, 3) := by decide +kernel
theorem dX12_compared_48 : decode cX12_compared 48 = .ok (.invokevirtual 382, 3) := by decide +kernel
theorem dX12_compared_51 : decode cX12_compared 51 = .ok (.ifCond .eq 7, 3) := by decide +kernel
theorem dX12_compared_58 : decode cX12_compared 58 = .ok (.iconst (-1), 1) := by decide +kernel
theorem dX12_compared_54 : decode cX12_compared 54 = .ok (.iconst 2, 1) := by decide +kernel
theorem dX12_compared_55 : decode cX12_compared 55 = .ok (.goto 4, 3) := by decide +kernel
theorem dX12_compared_39 : decode cX12_compared 39 = .ok (.iconst 1, 1) := by decide +kernel
theorem dX12_compared_40 : decode cX12_compared 40 = .ok (.goto 19, 3) := by decide +kernel
theorem dX12_compared_24 : decode cX12_compared 24 = .ok (.iconst 0, 1) := by decide +kernel
theorem dX12_compared_25 : decode cX12_compared 25 = .ok (.goto 34, 3) := by decide +kernel
theorem dX12_compared_12 : decode cX12_compared 12 = .ok (.return_, 1) := by decide +kernel
def fb_X12_compared_84  (x1 : Int32) (x3 : Int32) (s : uS) : Option uS := (iput 20 s 1111 x1 x3).bind fun s1 => (fn_X12_next s1).bind fun s3 => some s3
set_option maxRecDepth 100000 in
set_option maxHeartbeats 4000000 in
theorem xb_X12_compared_84 {l : Launch} {D : va_G} {A : Nat → ClassId} {B : Nat} {Z : State → Heap → Prop} {vF : Value} (uk : uK B Z vF)   {x1 : Int32} {x3 : Int32} {s : uS} {r : uS}  (h : fb_X12_compared_84  x1 x3 s = some r) : GU l D A B Z mX12_compared 8 (r, none) s 84 [(0, .ref (B + 1079)), (1, .int x1), (3, .int x3)] [] := by
  unfold fb_X12_compared_84 at h
  refine uu_aload_n dX12_compared_84 rfl (List.mem_of_getElem? (i := 0) rfl) ?_
  refine uu_geta (ci := 12) (N := 153) fX12_316 (by decide) so_1079.is (by decide) (c := 1111) (by decide) dX12_compared_85 ?_
  refine uu_iload_n dX12_compared_88 rfl (List.mem_of_getElem? (i := 1) rfl) ?_
  refine uu_iload_n dX12_compared_89 rfl (List.mem_of_getElem? (i := 2) rfl) ?_
  obtain ⟨s1, e2, h⟩ := uu_ob h
  refine uu_iast e2 dX12_compared_90 ?_
  refine uu_aload_n dX12_compared_91 rfl (List.mem_of_getElem? (i := 0) rfl) ?_
  obtain ⟨s3, e4, h⟩ := uu_ob h
  refine uu_cv (d1 := 7) (k := 1079) (ci := 12) (T := TX12) (N := 153) (As := []) (st := []) (st' := []) (xc_X12_next uk  e4) so_1079.is (by decide) rfl kX12_next lX12_279 sX12_next (by decide) (Nat.le_of_ble_eq_true rfl) dX12_compared_92 rfl ?_
  have hr := Option.some.inj h
  subst hr
  exact uu_vret rfl dX12_compared_95
def fb_X12_compared_72  (x1 : Int32) (x3 : Int32) (s : uS) : Option uS := if x3 = 2 then ((fn_X12_needs 128 s).bind fun s2 => fb_X12_compared_84 x1 x3 s2) else (fb_X12_compared_84 x1 x3 s)
set_option maxRecDepth 100000 in
set_option maxHeartbeats 4000000 in
theorem xb_X12_compared_72 {l : Launch} {D : va_G} {A : Nat → ClassId} {B : Nat} {Z : State → Heap → Prop} {vF : Value} (uk : uK B Z vF)   {x1 : Int32} {x3 : Int32} {s : uS} {r : uS}  (h : fb_X12_compared_72  x1 x3 s = some r) : GU l D A B Z mX12_compared 8 (r, none) s 72 [(0, .ref (B + 1079)), (1, .int x1), (3, .int x3)] [] := by
  unfold fb_X12_compared_72 at h
  refine uu_iload_n dX12_compared_72 rfl (List.mem_of_getElem? (i := 2) rfl) ?_
  refine uu_iconst (v := 2) dX12_compared_73 (by decide) ?_
  refine uu_icmp_ne (tgt := 84) dX12_compared_74 (by decide) (fun c1 => ?_) (fun c1 => ?_)
  · replace h := uu_neg c1 h
    exact xb_X12_compared_84 uk  h
  · replace h := uu_pos c1 h
    refine uu_aload_n dX12_compared_77 rfl (List.mem_of_getElem? (i := 0) rfl) ?_
    refine uu_sipush (v := 128) dX12_compared_78 (by decide) ?_
    obtain ⟨s2, e3, h⟩ := uu_ob h
    refine uu_cv (d1 := 1) (k := 1079) (ci := 12) (T := TX12) (N := 153) (As := [.int 128]) (st := []) (st' := []) (xc_X12_needs uk  e3) so_1079.is (by decide) rfl kX12_needs lX12_431 sX12_needs (by decide) (Nat.le_of_ble_eq_true rfl) dX12_compared_81 rfl ?_
    exact xb_X12_compared_84 uk  h
def fb_X12_compared_59  (x1 : Int32) (xs0 : Int32) (s : uS) : Option uS := if 0 ≤ xs0 then (fb_X12_compared_72 x1 xs0 s) else ((fn_X12_fail (s.I 1079 32) s).bind fun s2 => fb_X12_compared_72 x1 xs0 s2)
set_option maxRecDepth 100000 in
set_option maxHeartbeats 4000000 in
theorem xb_X12_compared_59 {l : Launch} {D : va_G} {A : Nat → ClassId} {B : Nat} {Z : State → Heap → Prop} {vF : Value} (uk : uK B Z vF)   {x1 : Int32} {xs0 : Int32} {s : uS} {r : uS}  (h : fb_X12_compared_59  x1 xs0 s = some r) : GU l D A B Z mX12_compared 8 (r, none) s 59 [(0, .ref (B + 1079)), (1, .int x1)] [.int xs0] := by
  unfold fb_X12_compared_59 at h
  refine uu_istore_n dX12_compared_59 rfl (by decide) rfl ?_
  refine uu_iload_n dX12_compared_60 rfl (List.mem_of_getElem? (i := 0) rfl) ?_
  refine uu_if_ge (tgt := 72) dX12_compared_61 (by decide) (fun c1 => ?_) (fun c1 => ?_)
  · replace h := uu_pos c1 h
    refine uu_lv [1, 2, 0] (lv' := [(0, .ref (B + 1079)), (1, .int x1), (3, .int xs0)]) rfl ?_
    exact xb_X12_compared_72 uk  h
  · replace h := uu_neg c1 h
    refine uu_aload_n dX12_compared_64 rfl (List.mem_of_getElem? (i := 1) rfl) ?_
    refine uu_aload_n dX12_compared_65 rfl (List.mem_of_getElem? (i := 1) rfl) ?_
    refine uu_geti (ci := 12) (N := 153) fX12_199 (by decide) so_1079.is (by decide) (by decide) dX12_compared_66 ?_
    obtain ⟨s2, e3, h⟩ := uu_ob h
    refine uu_cv (d1 := 0) (k := 1079) (ci := 12) (T := TX12) (N := 153) (As := [.int (s.I 1079 32)]) (st := []) (st' := []) (xc_X12_fail uk  e3) so_1079.is (by decide) rfl kX12_fail lX12_208 sX12_fail (by decide) (Nat.le_of_ble_eq_true rfl) dX12_compared_69 rfl ?_
    refine uu_lv [1, 2, 0] (lv' := [(0, .ref (B + 1079)), (1, .int x1), (3, .int xs0)]) rfl ?_
    exact xb_X12_compared_72 uk  h
def fn_X12_compared (x1 : Int32) (s : uS) : Option uS := (fn_X12_string s).bind fun r1 => if (r1.1.I 1079 40) < 0 then ((fn_X12_stringIs r1.2 kW_127 r1.1).bind fun v5 => if v5 = true then (fb_X12_compared_59 x1 0 r1.1) else ((fn_X12_stringIs r1.2 kW_128 r1.1).bind fun v9 => if v9 = true then (fb_X12_compared_59 x1 1 r1.1) else ((fn_X12_stringIs r1.2 kW_129 r1.1).bind fun v13 => if v13 = true then (fb_X12_compared_59 x1 2 r1.1) else (fb_X12_compared_59 x1 (-1) r1.1)))) else (some r1.1)
set_option maxRecDepth 100000 in
set_option maxHeartbeats 4000000 in
theorem xc_X12_compared {l : Launch} {D : va_G} {A : Nat → ClassId} {B : Nat} {Z : State → Heap → Prop} {vF : Value} (uk : uK B Z vF) {x1 : Int32} {s : uS} {r : uS}  (h : fn_X12_compared x1 s = some r) : CU l D A B Z 8 mX12_compared s [.ref (B + 1079), .int x1] (r, none) := by
  unfold fn_X12_compared at h
  refine cu_of rfl uk.1.1 (Nat.le_of_ble_eq_true rfl) ?_
  show GU _ _ _ _ _ _ _ _ _ 0 [(0, .ref (B + 1079)), (1, .int x1)] []
  refine uu_aload_n dX12_compared_0 rfl (List.mem_of_getElem? (i := 0) rfl) ?_
  obtain ⟨r1, e2, h⟩ := uu_ob h
  refine uu_cv (d1 := 1) (k := 1079) (ci := 12) (T := TX12) (N := 153) (As := []) (st := []) (st' := [.int r1.2]) (xc_X12_string uk  e2) so_1079.is (by decide) rfl kX12_string lX12_349 sX12_string (by decide) (Nat.le_of_ble_eq_true rfl) dX12_compared_1 rfl ?_
  refine uu_istore_n dX12_compared_4 rfl (by decide) rfl ?_
  refine uu_aload_n dX12_compared_5 rfl (List.mem_of_getElem? (i := 1) rfl) ?_
  refine uu_geti (ci := 12) (N := 153) fX12_193 (by decide) so_1079.is (by decide) (by decide) dX12_compared_6 ?_
  refine uu_if_lt (tgt := 13) dX12_compared_9 (by decide) (fun c3 => ?_) (fun c3 => ?_)
  · replace h := uu_pos c3 h
    refine uu_aload_n dX12_compared_13 rfl (List.mem_of_getElem? (i := 1) rfl) ?_
    refine uu_iload_n dX12_compared_14 rfl (List.mem_of_getElem? (i := 0) rfl) ?_
    obtain ⟨cq4, cp4, cv4, cw4⟩ := uk.2.1 127 _ rfl
    refine uu_ldcwS cv4 dX12_compared_15 ?_
    obtain ⟨v5, e6, h⟩ := uu_ob h
    refine uu_cv (d1 := 4) (k := 1079) (ci := 12) (T := TX12) (N := 153) (As := [.int r1.2, .ref cq4]) (st := []) (st' := [.int (bI v5)]) (xc_X12_stringIs uk cw4 e6) so_1079.is (by decide) rfl kX12_stringIs lX12_382 sX12_stringIs (by decide) (Nat.le_of_ble_eq_true rfl) dX12_compared_18 rfl ?_
    refine uu_ifb_eq (tgt := 28) dX12_compared_21 (by decide) (fun c7 => ?_) (fun c7 => ?_)
    · replace h := uu_neg c7 h
      refine uu_aload_n dX12_compared_28 rfl (List.mem_of_getElem? (i := 1) rfl) ?_
      refine uu_iload_n dX12_compared_29 rfl (List.mem_of_getElem? (i := 0) rfl) ?_
      obtain ⟨cq8, cp8, cv8, cw8⟩ := uk.2.1 128 _ rfl
      refine uu_ldcwS cv8 dX12_compared_30 ?_
      obtain ⟨v9, e10, h⟩ := uu_ob h
      refine uu_cv (d1 := 4) (k := 1079) (ci := 12) (T := TX12) (N := 153) (As := [.int r1.2, .ref cq8]) (st := []) (st' := [.int (bI v9)]) (xc_X12_stringIs uk cw8 e10) so_1079.is (by decide) rfl kX12_stringIs lX12_382 sX12_stringIs (by decide) (Nat.le_of_ble_eq_true rfl) dX12_compared_33 rfl ?_
      refine uu_ifb_eq (tgt := 43) dX12_compared_36 (by decide) (fun c11 => ?_) (fun c11 => ?_)
      · replace h := uu_neg c11 h
        refine uu_aload_n dX12_compared_43 rfl (List.mem_of_getElem? (i := 1) rfl) ?_
        refine uu_iload_n dX12_compared_44 rfl (List.mem_of_getElem? (i := 0) rfl) ?_
        obtain ⟨cq12, cp12, cv12, cw12⟩ := uk.2.1 129 _ rfl
        refine uu_ldcwS cv12 dX12_compared_45 ?_
        obtain ⟨v13, e14, h⟩ := uu_ob h
        refine uu_cv (d1 := 4) (k := 1079) (ci := 12) (T := TX12) (N := 153) (As := [.int r1.2, .ref cq12]) (st := []) (st' := [.int (bI v13)]) (xc_X12_stringIs uk cw12 e14) so_1079.is (by decide) rfl kX12_stringIs lX12_382 sX12_stringIs (by decide) (Nat.le_of_ble_eq_true rfl) dX12_compared_48 rfl ?_
        refine uu_ifb_eq (tgt := 58) dX12_compared_51 (by decide) (fun c15 => ?_) (fun c15 => ?_)
        · replace h := uu_neg c15 h
          refine uu_iconst (v := -1) dX12_compared_58 (by decide) ?_
          refine uu_lv [1, 2] (lv' := [(0, .ref (B + 1079)), (1, .int x1)]) rfl ?_
          exact xb_X12_compared_59 uk  h
        · replace h := uu_pos c15 h
          refine uu_iconst (v := 2) dX12_compared_54 (by decide) ?_
          refine uu_goto (tgt := 59) dX12_compared_55 (by decide) ?_
          refine uu_lv [1, 2] (lv' := [(0, .ref (B + 1079)), (1, .int x1)]) rfl ?_
          exact xb_X12_compared_59 uk  h
      · replace h := uu_pos c11 h
        refine uu_iconst (v := 1) dX12_compared_39 (by decide) ?_
        refine uu_goto (tgt := 59) dX12_compared_40 (by decide) ?_
        refine uu_lv [1, 2] (lv' := [(0, .ref (B + 1079)), (1, .int x1)]) rfl ?_
        exact xb_X12_compared_59 uk  h
    · replace h := uu_pos c7 h
      refine uu_iconst (v := 0) dX12_compared_24 (by decide) ?_
      refine uu_goto (tgt := 59) dX12_compared_25 (by decide) ?_
      refine uu_lv [1, 2] (lv' := [(0, .ref (B + 1079)), (1, .int x1)]) rfl ?_
      exact xb_X12_compared_59 uk  h
  · replace h := uu_neg c3 h
    have hr := Option.some.inj h
    subst hr
    exact uu_vret rfl dX12_compared_12
