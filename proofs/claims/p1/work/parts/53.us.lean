abbrev mX12_envelope : hM := (yX12_envelope, cX12_envelope, 5, none)
theorem dX12_envelope_99 : decode cX12_envelope 99 = .ok (.iload_n 3, 1) := by decide +kernel
theorem dX12_envelope_100 : decode cX12_envelope 100 = .ok (.ifCond .eq 21, 3) := by decide +kernel
theorem dX12_envelope_121 : decode cX12_envelope 121 = .ok (.return_, 1) := by decide +kernel
theorem dX12_envelope_103 : decode cX12_envelope 103 = .ok (.aload_n 0, 1) := by decide +kernel
theorem kX12_oneTo : h_ml mX12_oneTo 0 := ⟨h_t9 208 rfl rfl, h_t1 16 rfl rfl, ⟨by decide, by decide, by decide +kernel⟩, by decide⟩
theorem lX12_697 : Cond.methodLink RX12 697 mX12_oneTo.1 ∈ lw_g := h_t9 205 rfl rfl
theorem sX12_oneTo : Cond.instanceMethod mX12_oneTo.1 ∈ lw_g ∧ Cond.selects mX12_oneTo.1.cls mX12_oneTo.1 mX12_oneTo.1 ∈ lw_g := ⟨h_t9 207 rfl rfl, h_ins 192 rfl⟩
theorem dX12_envelope_104 : decode cX12_envelope 104 = .ok (.invokevirtual 697, 3) := by decide +kernel
theorem dX12_envelope_107 : decode cX12_envelope 107 = .ok (.aload_n 0, 1) := by decide +kernel
theorem dX12_envelope_108 : decode cX12_envelope 108 = .ok (.iload_n 1, 1) := by decide +kernel
theorem dX12_envelope_109 : decode cX12_envelope 109 = .ok (.aload_n 0, 1) := by decide +kernel
theorem dX12_envelope_110 : decode cX12_envelope 110 = .ok (.invokevirtual 469, 3) := by decide +kernel
theorem dX12_envelope_113 : decode cX12_envelope 113 = .ok (.invokevirtual 675, 3) := by decide +kernel
theorem dX12_envelope_116 : decode cX12_envelope 116 = .ok (.aload_n 0, 1) := by decide +kernel
theorem dX12_envelope_117 : decode cX12_envelope 117 = .ok (.iload_n 1, 1) := by decide +kernel
theorem dX12_envelope_118 : decode cX12_envelope 118 = .ok (.invokevirtual 664, 3) := by decide +kernel
theorem dX12_envelope_50 : decode cX12_envelope 50 = .ok (.istore_n 2, 1) := by decide +kernel
theorem dX12_envelope_51 : decode cX12_envelope 51 = .ok (.iload_n 3, 1) := by decide +kernel
theorem dX12_envelope_52 : decode cX12_envelope 52 = .ok (.ifCond .ne 13, 3) := by decide +kernel
theorem dX12_envelope_65 : decode cX12_envelope 65 = .ok (.iconst 1, 1) := by decide +kernel
theorem dX12_envelope_66 : decode cX12_envelope 66 = .ok (.goto 4, 3) := by decide +kernel
theorem dX12_envelope_70 : decode cX12_envelope 70 = .ok (.istore_n 3, 1) := by decide +kernel
theorem dX12_envelope_71 : decode cX12_envelope 71 = .ok (.iinc 4 1, 3) := by decide +kernel
theorem dX12_envelope_74 : decode cX12_envelope 74 = .ok (.goto (-67), 3) := by decide +kernel
theorem dX12_envelope_55 : decode cX12_envelope 55 = .ok (.aload_n 0, 1) := by decide +kernel
theorem dX12_envelope_56 : decode cX12_envelope 56 = .ok (.ldc_w 692, 3) := by decide +kernel
theorem dX12_envelope_59 : decode cX12_envelope 59 = .ok (.invokevirtual 158, 3) := by decide +kernel
theorem dX12_envelope_62 : decode cX12_envelope 62 = .ok (.ifCond .eq 7, 3) := by decide +kernel
theorem dX12_envelope_69 : decode cX12_envelope 69 = .ok (.iconst 0, 1) := by decide +kernel
theorem dX12_envelope_7 : decode cX12_envelope 7 = .ok (.iload 4, 2) := by decide +kernel
theorem dX12_envelope_9 : decode cX12_envelope 9 = .ok (.aload_n 0, 1) := by decide +kernel
theorem dX12_envelope_10 : decode cX12_envelope 10 = .ok (.getfield 297, 3) := by decide +kernel
theorem dX12_envelope_13 : decode cX12_envelope 13 = .ok (.iload_n 1, 1) := by decide +kernel
theorem dX12_envelope_14 : decode cX12_envelope 14 = .ok (.iaload, 1) := by decide +kernel
theorem dX12_envelope_15 : decode cX12_envelope 15 = .ok (.if_icmp .ge 62, 3) := by decide +kernel
theorem dX12_envelope_77 : decode cX12_envelope 77 = .ok (.iload_n 2, 1) := by decide +kernel
theorem dX12_envelope_78 : decode cX12_envelope 78 = .ok (.ifCond .eq 21, 3) := by decide +kernel
theorem dX12_envelope_81 : decode cX12_envelope 81 = .ok (.aload_n 0, 1) := by decide +kernel
theorem kX12_oneFrom : h_ml mX12_oneFrom 0 := ⟨h_t9 204 rfl rfl, h_t1 16 rfl rfl, ⟨by decide, by decide, by decide +kernel⟩, by decide⟩
theorem lX12_694 : Cond.methodLink RX12 694 mX12_oneFrom.1 ∈ lw_g := h_t9 201 rfl rfl
theorem sX12_oneFrom : Cond.instanceMethod mX12_oneFrom.1 ∈ lw_g ∧ Cond.selects mX12_oneFrom.1.cls mX12_oneFrom.1 mX12_oneFrom.1 ∈ lw_g := ⟨h_t9 203 rfl rfl, h_ins 191 rfl⟩
theorem dX12_envelope_82 : decode cX12_envelope 82 = .ok (.invokevirtual 694, 3) := by decide +kernel
theorem dX12_envelope_85 : decode cX12_envelope 85 = .ok (.aload_n 0, 1) := by decide +kernel
theorem dX12_envelope_86 : decode cX12_envelope 86 = .ok (.iload_n 1, 1) := by decide +kernel
theorem dX12_envelope_87 : decode cX12_envelope 87 = .ok (.aload_n 0, 1) := by decide +kernel
theorem dX12_envelope_88 : decode cX12_envelope 88 = .ok (.invokevirtual 469, 3) := by decide +kernel
theorem dX12_envelope_91 : decode cX12_envelope 91 = .ok (.invokevirtual 675, 3) := by decide +kernel
theorem dX12_envelope_94 : decode cX12_envelope 94 = .ok (.aload_n 0, 1) := by decide +kernel
theorem dX12_envelope_95 : decode cX12_envelope 95 = .ok (.iload_n 1, 1) := by decide +kernel
theorem dX12_envelope_96 : decode cX12_envelope 96 = .ok (.invokevirtual 664, 3) := by decide +kernel
theorem dX12_envelope_18 : decode cX12_envelope 18 = .ok (.aload_n 0, 1) := by decide +kernel
theorem dX12_envelope_19 : decode cX12_envelope 19 = .ok (.aload_n 0, 1) := by decide +kernel
theorem dX12_envelope_20 : decode cX12_envelope 20 = .ok (.getfield 439, 3) := by decide +kernel
theorem dX12_envelope_23 : decode cX12_envelope 23 = .ok (.iload_n 1, 1) := by decide +kernel
theorem dX12_envelope_24 : decode cX12_envelope 24 = .ok (.iaload, 1) := by decide +kernel
theorem dX12_envelope_25 : decode cX12_envelope 25 = .ok (.iload 4, 2) := by decide +kernel
theorem dX12_envelope_27 : decode cX12_envelope 27 = .ok (.iadd, 1) := by decide +kernel
theorem dX12_envelope_28 : decode cX12_envelope 28 = .ok (.invokevirtual 466, 3) := by decide +kernel
theorem dX12_envelope_31 : decode cX12_envelope 31 = .ok (.iload_n 2, 1) := by decide +kernel
theorem dX12_envelope_32 : decode cX12_envelope 32 = .ok (.ifCond .ne 13, 3) := by decide +kernel
theorem dX12_envelope_45 : decode cX12_envelope 45 = .ok (.iconst 1, 1) := by decide +kernel
theorem dX12_envelope_46 : decode cX12_envelope 46 = .ok (.goto 4, 3) := by decide +kernel
theorem dX12_envelope_35 : decode cX12_envelope 35 = .ok (.aload_n 0, 1) := by decide +kernel
theorem dX12_envelope_36 : decode cX12_envelope 36 = .ok (.ldc_w 690, 3) := by decide +kernel
theorem dX12_envelope_39 : decode cX12_envelope 39 = .ok (.invokevirtual 158, 3) := by decide +kernel
theorem dX12_envelope_42 : decode cX12_envelope 42 = .ok (.ifCond .eq 7, 3) := by decide +kernel
theorem dX12_envelope_49 : decode cX12_envelope 49 = .ok (.iconst 0, 1) := by decide +kernel
theorem dX12_envelope_0 : decode cX12_envelope 0 = .ok (.iconst 0, 1) := by decide +kernel
theorem dX12_envelope_1 : decode cX12_envelope 1 = .ok (.istore_n 2, 1) := by decide +kernel
theorem dX12_envelope_2 : decode cX12_envelope 2 = .ok (.iconst 0, 1) := by decide +kernel
theorem dX12_envelope_3 : decode cX12_envelope 3 = .ok (.istore_n 3, 1) := by decide +kernel
theorem dX12_envelope_4 : decode cX12_envelope 4 = .ok (.iconst 0, 1) := by decide +kernel
theorem dX12_envelope_5 : decode cX12_envelope 5 = .ok (.istore 4, 2) := by decide +kernel
def fb_X12_envelope_99  (x1 : Int32) (b3 : Bool) (s : uS) : Option uS := if b3 = true then ((fn_X12_oneTo s).bind fun s2 => (fn_X12_atOf s2).bind fun v4 => (fn_X12_part x1 v4 s2).bind fun s6 => (fn_X12_value x1 s6).bind fun s8 => some s8) else (some s)
set_option maxRecDepth 100000 in
set_option maxHeartbeats 4000000 in
theorem xb_X12_envelope_99 {l : Launch} {D : va_G} {A : Nat → ClassId} {B : Nat} {Z : State → Heap → Prop} {vF : Value} (uk : uK B Z vF)   {x1 : Int32} {b3 : Bool} {s : uS} {r : uS}  (h : fb_X12_envelope_99  x1 b3 s = some r) : GU l D A B Z mX12_envelope 6 (r, none) s 99 [(0, .ref (B + 1079)), (1, .int x1), (3, .int (bI b3))] [] := by
  unfold fb_X12_envelope_99 at h
  refine uu_iload_n dX12_envelope_99 rfl (List.mem_of_getElem? (i := 2) rfl) ?_
  refine uu_ifb_eq (tgt := 121) dX12_envelope_100 (by decide) (fun c1 => ?_) (fun c1 => ?_)
  · replace h := uu_neg c1 h
    have hr := Option.some.inj h
    subst hr
    exact uu_vret rfl dX12_envelope_121
  · replace h := uu_pos c1 h
    refine uu_aload_n dX12_envelope_103 rfl (List.mem_of_getElem? (i := 0) rfl) ?_
    obtain ⟨s2, e3, h⟩ := uu_ob h
    refine uu_cv (d1 := 0) (k := 1079) (ci := 12) (T := TX12) (N := 153) (As := []) (st := []) (st' := []) (xc_X12_oneTo uk  e3) so_1079.is (by decide) rfl kX12_oneTo lX12_697 sX12_oneTo (by decide) (Nat.le_of_ble_eq_true rfl) dX12_envelope_104 rfl ?_
    refine uu_aload_n dX12_envelope_107 rfl (List.mem_of_getElem? (i := 0) rfl) ?_
    refine uu_iload_n dX12_envelope_108 rfl (List.mem_of_getElem? (i := 1) rfl) ?_
    refine uu_aload_n dX12_envelope_109 rfl (List.mem_of_getElem? (i := 0) rfl) ?_
    obtain ⟨v4, e5, h⟩ := uu_ob h
    refine uu_cv (d1 := 3) (k := 1079) (ci := 12) (T := TX12) (N := 153) (As := []) (st := [.int x1, .ref (B + 1079)]) (st' := [.int v4, .int x1, .ref (B + 1079)]) (xc_X12_atOf uk  e5) so_1079.is (by decide) rfl kX12_atOf lX12_469 sX12_atOf (by decide) (Nat.le_of_ble_eq_true rfl) dX12_envelope_110 rfl ?_
    obtain ⟨s6, e7, h⟩ := uu_ob h
    refine uu_cv (d1 := 0) (k := 1079) (ci := 12) (T := TX12) (N := 153) (As := [.int x1, .int v4]) (st := []) (st' := []) (xc_X12_part uk  e7) so_1079.is (by decide) rfl kX12_part lX12_675 sX12_part (by decide) (Nat.le_of_ble_eq_true rfl) dX12_envelope_113 rfl ?_
    refine uu_aload_n dX12_envelope_116 rfl (List.mem_of_getElem? (i := 0) rfl) ?_
    refine uu_iload_n dX12_envelope_117 rfl (List.mem_of_getElem? (i := 1) rfl) ?_
    obtain ⟨s8, e9, h⟩ := uu_ob h
    refine uu_cv (d1 := 4) (k := 1079) (ci := 12) (T := TX12) (N := 153) (As := [.int x1]) (st := []) (st' := []) (xc_X12_value uk  e9) so_1079.is (by decide) rfl kX12_value lX12_664 sX12_value (by decide) (Nat.le_of_ble_eq_true rfl) dX12_envelope_118 rfl ?_
    have hr := Option.some.inj h
    subst hr
    exact uu_vret rfl dX12_envelope_121
def fb_X12_envelope_50 (K7 : Int32 → Bool → Bool → Int32 → uS → Option uS) (x1 : Int32) (b3 : Bool) (x4 : Int32) (bs0 : Bool) (s : uS) : Option uS := if b3 = true then (K7 x1 bs0 true (x4 + 1) s) else ((fn_X12_oneIs kW_136 s).bind fun r3 => if r3.2 = true then (K7 x1 bs0 true (x4 + 1) r3.1) else (K7 x1 bs0 false (x4 + 1) r3.1))
set_option maxRecDepth 100000 in
set_option maxHeartbeats 4000000 in
theorem xb_X12_envelope_50 {l : Launch} {D : va_G} {A : Nat → ClassId} {B : Nat} {Z : State → Heap → Prop} {vF : Value} (uk : uK B Z vF) {K7 : Int32 → Bool → Bool → Int32 → uS → Option uS} (hK7 : ∀ (x1 : Int32) (b2 : Bool) (b3 : Bool) (x4 : Int32)  (s : uS) (r : uS), K7 x1 b2 b3 x4 s = some r → GU l D A B Z mX12_envelope 6 (r, none) s 7 [(0, .ref (B + 1079)), (1, .int x1), (2, .int (bI b2)), (3, .int (bI b3)), (4, .int x4)] []) {x1 : Int32} {b3 : Bool} {x4 : Int32} {bs0 : Bool} {s : uS} {r : uS}  (h : fb_X12_envelope_50 K7 x1 b3 x4 bs0 s = some r) : GU l D A B Z mX12_envelope 6 (r, none) s 50 [(0, .ref (B + 1079)), (1, .int x1), (3, .int (bI b3)), (4, .int x4)] [.int (bI bs0)] := by
  unfold fb_X12_envelope_50 at h
  refine uu_istore_n dX12_envelope_50 rfl (by decide) rfl ?_
  refine uu_iload_n dX12_envelope_51 rfl (List.mem_of_getElem? (i := 3) rfl) ?_
  refine uu_ifb_ne (tgt := 65) dX12_envelope_52 (by decide) (fun c1 => ?_) (fun c1 => ?_)
  · replace h := uu_pos c1 h
    refine uu_iconst (v := 1) dX12_envelope_65 (by decide) ?_
    refine uu_goto (tgt := 70) dX12_envelope_66 (by decide) ?_
    refine uu_istore_n dX12_envelope_70 rfl (by decide) rfl ?_
    refine uu_iinc (v := x4 + 1) dX12_envelope_71 (k := 4) rfl rfl (by decide) rfl ?_
    refine uu_goto (tgt := 7) dX12_envelope_74 (by decide) ?_
    refine uu_lv [3, 4, 2, 1, 0] (lv' := [(0, .ref (B + 1079)), (1, .int x1), (2, .int (bI bs0)), (3, .int 1), (4, .int (x4 + 1))]) rfl ?_
    exact hK7 x1 bs0 true (x4 + 1) _ _ h
  · replace h := uu_neg c1 h
    refine uu_aload_n dX12_envelope_55 rfl (List.mem_of_getElem? (i := 1) rfl) ?_
    obtain ⟨cq2, cp2, cv2, cw2⟩ := uk.2.1 136 _ rfl
    refine uu_ldcwS cv2 dX12_envelope_56 ?_
    obtain ⟨r3, e4, h⟩ := uu_ob h
    refine uu_cv (d1 := 5) (k := 1079) (ci := 12) (T := TX12) (N := 153) (As := [.ref cq2]) (st := []) (st' := [.int (bI r3.2)]) (xc_X12_oneIs uk cw2 e4) so_1079.is (by decide) rfl kX12_oneIs lX12_158 sX12_oneIs (by decide) (Nat.le_of_ble_eq_true rfl) dX12_envelope_59 rfl ?_
    refine uu_ifb_eq (tgt := 69) dX12_envelope_62 (by decide) (fun c5 => ?_) (fun c5 => ?_)
    · replace h := uu_neg c5 h
      refine uu_iconst (v := 0) dX12_envelope_69 (by decide) ?_
      refine uu_istore_n dX12_envelope_70 rfl (by decide) rfl ?_
      refine uu_iinc (v := x4 + 1) dX12_envelope_71 (k := 4) rfl rfl (by decide) rfl ?_
      refine uu_goto (tgt := 7) dX12_envelope_74 (by decide) ?_
      refine uu_lv [3, 4, 2, 1, 0] (lv' := [(0, .ref (B + 1079)), (1, .int x1), (2, .int (bI bs0)), (3, .int 0), (4, .int (x4 + 1))]) rfl ?_
      exact hK7 x1 bs0 false (x4 + 1) _ _ h
    · replace h := uu_pos c5 h
      refine uu_iconst (v := 1) dX12_envelope_65 (by decide) ?_
      refine uu_goto (tgt := 70) dX12_envelope_66 (by decide) ?_
      refine uu_istore_n dX12_envelope_70 rfl (by decide) rfl ?_
      refine uu_iinc (v := x4 + 1) dX12_envelope_71 (k := 4) rfl rfl (by decide) rfl ?_
      refine uu_goto (tgt := 7) dX12_envelope_74 (by decide) ?_
      refine uu_lv [3, 4, 2, 1, 0] (lv' := [(0, .ref (B + 1079)), (1, .int x1), (2, .int (bI bs0)), (3, .int 1), (4, .int (x4 + 1))]) rfl ?_
      exact hK7 x1 bs0 true (x4 + 1) _ _ h
def fb_X12_envelope_7 (K7 : Int32 → Bool → Bool → Int32 → uS → Option uS) (x1 : Int32) (b2 : Bool) (b3 : Bool) (x4 : Int32) (s : uS) : Option uS := (iget 20 s 1103 x1).bind fun v1 => if v1 ≤ x4 then (if b2 = true then ((fn_X12_oneFrom s).bind fun s5 => (fn_X12_atOf s5).bind fun v7 => (fn_X12_part x1 v7 s5).bind fun s9 => (fn_X12_value x1 s9).bind fun s11 => fb_X12_envelope_99 x1 b3 s11) else (fb_X12_envelope_99 x1 b3 s)) else ((iget 20 s 1102 x1).bind fun v13 => (fn_X12_oneString (v13 + x4) s).bind fun s15 => if b2 = true then (fb_X12_envelope_50 K7 x1 b3 x4 true s15) else ((fn_X12_oneIs kW_135 s15).bind fun r19 => if r19.2 = true then (fb_X12_envelope_50 K7 x1 b3 x4 true r19.1) else (fb_X12_envelope_50 K7 x1 b3 x4 false r19.1)))
set_option maxRecDepth 100000 in
set_option maxHeartbeats 4000000 in
theorem xb_X12_envelope_7 {l : Launch} {D : va_G} {A : Nat → ClassId} {B : Nat} {Z : State → Heap → Prop} {vF : Value} (uk : uK B Z vF) {K7 : Int32 → Bool → Bool → Int32 → uS → Option uS} (hK7 : ∀ (x1 : Int32) (b2 : Bool) (b3 : Bool) (x4 : Int32)  (s : uS) (r : uS), K7 x1 b2 b3 x4 s = some r → GU l D A B Z mX12_envelope 6 (r, none) s 7 [(0, .ref (B + 1079)), (1, .int x1), (2, .int (bI b2)), (3, .int (bI b3)), (4, .int x4)] []) {x1 : Int32} {b2 : Bool} {b3 : Bool} {x4 : Int32} {s : uS} {r : uS}  (h : fb_X12_envelope_7 K7 x1 b2 b3 x4 s = some r) : GU l D A B Z mX12_envelope 6 (r, none) s 7 [(0, .ref (B + 1079)), (1, .int x1), (2, .int (bI b2)), (3, .int (bI b3)), (4, .int x4)] [] := by
  unfold fb_X12_envelope_7 at h
  refine uu_iload dX12_envelope_7 (List.mem_of_getElem? (i := 4) rfl) ?_
  refine uu_aload_n dX12_envelope_9 rfl (List.mem_of_getElem? (i := 0) rfl) ?_
  refine uu_geta (ci := 12) (N := 153) fX12_297 (by decide) so_1079.is (by decide) (c := 1103) (by decide) dX12_envelope_10 ?_
  refine uu_iload_n dX12_envelope_13 rfl (List.mem_of_getElem? (i := 1) rfl) ?_
  obtain ⟨v1, e2, h⟩ := uu_ob h
  refine uu_iald e2 dX12_envelope_14 ?_
  refine uu_icmp_ge (tgt := 77) dX12_envelope_15 (by decide) (fun c3 => ?_) (fun c3 => ?_)
  · replace h := uu_pos c3 h
    refine uu_iload_n dX12_envelope_77 rfl (List.mem_of_getElem? (i := 2) rfl) ?_
    refine uu_ifb_eq (tgt := 99) dX12_envelope_78 (by decide) (fun c4 => ?_) (fun c4 => ?_)
    · replace h := uu_neg c4 h
      refine uu_lv [0, 1, 3] (lv' := [(0, .ref (B + 1079)), (1, .int x1), (3, .int (bI b3))]) rfl ?_
      exact xb_X12_envelope_99 uk  h
    · replace h := uu_pos c4 h
      refine uu_aload_n dX12_envelope_81 rfl (List.mem_of_getElem? (i := 0) rfl) ?_
      obtain ⟨s5, e6, h⟩ := uu_ob h
      refine uu_cv (d1 := 0) (k := 1079) (ci := 12) (T := TX12) (N := 153) (As := []) (st := []) (st' := []) (xc_X12_oneFrom uk  e6) so_1079.is (by decide) rfl kX12_oneFrom lX12_694 sX12_oneFrom (by decide) (Nat.le_of_ble_eq_true rfl) dX12_envelope_82 rfl ?_
      refine uu_aload_n dX12_envelope_85 rfl (List.mem_of_getElem? (i := 0) rfl) ?_
      refine uu_iload_n dX12_envelope_86 rfl (List.mem_of_getElem? (i := 1) rfl) ?_
      refine uu_aload_n dX12_envelope_87 rfl (List.mem_of_getElem? (i := 0) rfl) ?_
      obtain ⟨v7, e8, h⟩ := uu_ob h
      refine uu_cv (d1 := 3) (k := 1079) (ci := 12) (T := TX12) (N := 153) (As := []) (st := [.int x1, .ref (B + 1079)]) (st' := [.int v7, .int x1, .ref (B + 1079)]) (xc_X12_atOf uk  e8) so_1079.is (by decide) rfl kX12_atOf lX12_469 sX12_atOf (by decide) (Nat.le_of_ble_eq_true rfl) dX12_envelope_88 rfl ?_
      obtain ⟨s9, e10, h⟩ := uu_ob h
      refine uu_cv (d1 := 0) (k := 1079) (ci := 12) (T := TX12) (N := 153) (As := [.int x1, .int v7]) (st := []) (st' := []) (xc_X12_part uk  e10) so_1079.is (by decide) rfl kX12_part lX12_675 sX12_part (by decide) (Nat.le_of_ble_eq_true rfl) dX12_envelope_91 rfl ?_
      refine uu_aload_n dX12_envelope_94 rfl (List.mem_of_getElem? (i := 0) rfl) ?_
      refine uu_iload_n dX12_envelope_95 rfl (List.mem_of_getElem? (i := 1) rfl) ?_
      obtain ⟨s11, e12, h⟩ := uu_ob h
      refine uu_cv (d1 := 4) (k := 1079) (ci := 12) (T := TX12) (N := 153) (As := [.int x1]) (st := []) (st' := []) (xc_X12_value uk  e12) so_1079.is (by decide) rfl kX12_value lX12_664 sX12_value (by decide) (Nat.le_of_ble_eq_true rfl) dX12_envelope_96 rfl ?_
      refine uu_lv [0, 1, 3] (lv' := [(0, .ref (B + 1079)), (1, .int x1), (3, .int (bI b3))]) rfl ?_
      exact xb_X12_envelope_99 uk  h
  · replace h := uu_neg c3 h
    refine uu_aload_n dX12_envelope_18 rfl (List.mem_of_getElem? (i := 0) rfl) ?_
    refine uu_aload_n dX12_envelope_19 rfl (List.mem_of_getElem? (i := 0) rfl) ?_
    refine uu_geta (ci := 12) (N := 153) fX12_439 (by decide) so_1079.is (by decide) (c := 1102) (by decide) dX12_envelope_20 ?_
    refine uu_iload_n dX12_envelope_23 rfl (List.mem_of_getElem? (i := 1) rfl) ?_
    obtain ⟨v13, e14, h⟩ := uu_ob h
    refine uu_iald e14 dX12_envelope_24 ?_
    refine uu_iload dX12_envelope_25 (List.mem_of_getElem? (i := 4) rfl) ?_
    refine uu_iadd dX12_envelope_27 ?_
    obtain ⟨s15, e16, h⟩ := uu_ob h
    refine uu_cv (d1 := 0) (k := 1079) (ci := 12) (T := TX12) (N := 153) (As := [.int (v13 + x4)]) (st := []) (st' := []) (xc_X12_oneString uk  e16) so_1079.is (by decide) rfl kX12_oneString lX12_466 sX12_oneString (by decide) (Nat.le_of_ble_eq_true rfl) dX12_envelope_28 rfl ?_
    refine uu_iload_n dX12_envelope_31 rfl (List.mem_of_getElem? (i := 2) rfl) ?_
    refine uu_ifb_ne (tgt := 45) dX12_envelope_32 (by decide) (fun c17 => ?_) (fun c17 => ?_)
    · replace h := uu_pos c17 h
      refine uu_iconst (v := 1) dX12_envelope_45 (by decide) ?_
      refine uu_goto (tgt := 50) dX12_envelope_46 (by decide) ?_
      refine uu_lv [0, 1, 3, 4] (lv' := [(0, .ref (B + 1079)), (1, .int x1), (3, .int (bI b3)), (4, .int x4)]) rfl ?_
      exact xb_X12_envelope_50 uk hK7 h
    · replace h := uu_neg c17 h
      refine uu_aload_n dX12_envelope_35 rfl (List.mem_of_getElem? (i := 0) rfl) ?_
      obtain ⟨cq18, cp18, cv18, cw18⟩ := uk.2.1 135 _ rfl
      refine uu_ldcwS cv18 dX12_envelope_36 ?_
      obtain ⟨r19, e20, h⟩ := uu_ob h
      refine uu_cv (d1 := 5) (k := 1079) (ci := 12) (T := TX12) (N := 153) (As := [.ref cq18]) (st := []) (st' := [.int (bI r19.2)]) (xc_X12_oneIs uk cw18 e20) so_1079.is (by decide) rfl kX12_oneIs lX12_158 sX12_oneIs (by decide) (Nat.le_of_ble_eq_true rfl) dX12_envelope_39 rfl ?_
      refine uu_ifb_eq (tgt := 49) dX12_envelope_42 (by decide) (fun c21 => ?_) (fun c21 => ?_)
      · replace h := uu_neg c21 h
        refine uu_iconst (v := 0) dX12_envelope_49 (by decide) ?_
        refine uu_lv [0, 1, 3, 4] (lv' := [(0, .ref (B + 1079)), (1, .int x1), (3, .int (bI b3)), (4, .int x4)]) rfl ?_
        exact xb_X12_envelope_50 uk hK7 h
      · replace h := uu_pos c21 h
        refine uu_iconst (v := 1) dX12_envelope_45 (by decide) ?_
        refine uu_goto (tgt := 50) dX12_envelope_46 (by decide) ?_
        refine uu_lv [0, 1, 3, 4] (lv' := [(0, .ref (B + 1079)), (1, .int x1), (3, .int (bI b3)), (4, .int x4)]) rfl ?_
        exact xb_X12_envelope_50 uk hK7 h
def fn_X12_envelope_7  : Nat → Int32 → Bool → Bool → Int32 → uS → Option uS
  | 0 => fun _ _ _ _ _ => none
  | n + 1 => fb_X12_envelope_7 (fn_X12_envelope_7  n)
set_option maxRecDepth 100000 in
set_option maxHeartbeats 4000000 in
theorem xn_X12_envelope_7 {l : Launch} {D : va_G} {A : Nat → ClassId} {B : Nat} {Z : State → Heap → Prop} {vF : Value} (uk : uK B Z vF)   : ∀ (n : Nat) (x1 : Int32) (b2 : Bool) (b3 : Bool) (x4 : Int32)  (s : uS) (r : uS), fn_X12_envelope_7  n x1 b2 b3 x4 s = some r → GU l D A B Z mX12_envelope 6 (r, none) s 7 [(0, .ref (B + 1079)), (1, .int x1), (2, .int (bI b2)), (3, .int (bI b3)), (4, .int x4)] [] := by
  intro n
  induction n with
  | zero => intro x1 b2 b3 x4 s r h
            cases h
  | succ n ih => intro x1 b2 b3 x4 s r h
                 exact xb_X12_envelope_7 uk ih  h
def fn_X12_envelope (x1 : Int32) (s : uS) : Option uS := fn_X12_envelope_7 uFu x1 false false 0 s
set_option maxRecDepth 100000 in
set_option maxHeartbeats 4000000 in
theorem xc_X12_envelope {l : Launch} {D : va_G} {A : Nat → ClassId} {B : Nat} {Z : State → Heap → Prop} {vF : Value} (uk : uK B Z vF) {x1 : Int32} {s : uS} {r : uS}  (h : fn_X12_envelope x1 s = some r) : CU l D A B Z 6 mX12_envelope s [.ref (B + 1079), .int x1] (r, none) := by
  unfold fn_X12_envelope at h
  refine cu_of rfl uk.1.1 (Nat.le_of_ble_eq_true rfl) ?_
  show GU _ _ _ _ _ _ _ _ _ 0 [(0, .ref (B + 1079)), (1, .int x1)] []
  refine uu_iconst (v := 0) dX12_envelope_0 (by decide) ?_
  refine uu_istore_n dX12_envelope_1 rfl (by decide) rfl ?_
  refine uu_iconst (v := 0) dX12_envelope_2 (by decide) ?_
  refine uu_istore_n dX12_envelope_3 rfl (by decide) rfl ?_
  refine uu_iconst (v := 0) dX12_envelope_4 (by decide) ?_
  refine uu_istore dX12_envelope_5 (by decide) rfl ?_
  refine uu_lv [3, 4, 2, 1, 0] (lv' := [(0, .ref (B + 1079)), (1, .int x1), (2, .int 0), (3, .int 0), (4, .int 0)]) rfl ?_
  exact xn_X12_envelope_7 uk  _ _ _ _ _ _ _ h
abbrev mX12_flagsSet : hM := (yX12_flagsSet, cX12_flagsSet, 5, none)
theorem dX12_flagsSet_80 : decode cX12_flagsSet 80 = .ok (.iload 4, 2) := by decide +kernel
theorem dX12_flagsSet_82 : decode cX12_flagsSet 82 = .ok (.aload_n 0, 1) := by decide +kernel
theorem dX12_flagsSet_83 : decode cX12_flagsSet 83 = .ok (.getfield 110, 3) := by decide +kernel
theorem dX12_flagsSet_86 : decode cX12_flagsSet 86 = .ok (.if_icmp .ge 22, 3) := by decide +kernel
theorem dX12_flagsSet_108 : decode cX12_flagsSet 108 = .ok (.aload_n 0, 1) := by decide +kernel
theorem dX12_flagsSet_109 : decode cX12_flagsSet 109 = .ok (.iload_n 1, 1) := by decide +kernel
theorem dX12_flagsSet_110 : decode cX12_flagsSet 110 = .ok (.invokevirtual 664, 3) := by decide +kernel
theorem dX12_flagsSet_113 : decode cX12_flagsSet 113 = .ok (.iload_n 2, 1) := by decide +kernel
theorem dX12_flagsSet_114 : decode cX12_flagsSet 114 = .ok (.iconst 2, 1) := by decide +kernel
theorem dX12_flagsSet_115 : decode cX12_flagsSet 115 = .ok (.imul, 1) := by decide +kernel
theorem dX12_flagsSet_116 : decode cX12_flagsSet 116 = .ok (.istore_n 2, 1) := by decide +kernel
theorem dX12_flagsSet_117 : decode cX12_flagsSet 117 = .ok (.goto (-115), 3) := by decide +kernel
theorem dX12_flagsSet_89 : decode cX12_flagsSet 89 = .ok (.aload_n 0, 1) := by decide +kernel
theorem dX12_flagsSet_90 : decode cX12_flagsSet 90 = .ok (.getfield 116, 3) := by decide +kernel
theorem dX12_flagsSet_93 : decode cX12_flagsSet 93 = .ok (.iload 4, 2) := by decide +kernel
theorem dX12_flagsSet_95 : decode cX12_flagsSet 95 = .ok (.aload_n 3, 1) := by decide +kernel
theorem dX12_flagsSet_96 : decode cX12_flagsSet 96 = .ok (.iload 4, 2) := by decide +kernel
theorem dX12_flagsSet_98 : decode cX12_flagsSet 98 = .ok (.invokevirtual 64, 3) := by decide +kernel
theorem dX12_flagsSet_101 : decode cX12_flagsSet 101 = .ok (.iastore, 1) := by decide +kernel
theorem dX12_flagsSet_102 : decode cX12_flagsSet 102 = .ok (.iinc 4 1, 3) := by decide +kernel
theorem dX12_flagsSet_105 : decode cX12_flagsSet 105 = .ok (.goto (-25), 3) := by decide +kernel
theorem dX12_flagsSet_68 : decode cX12_flagsSet 68 = .ok (.astore_n 3, 1) := by decide +kernel
theorem dX12_flagsSet_69 : decode cX12_flagsSet 69 = .ok (.aload_n 0, 1) := by decide +kernel
theorem dX12_flagsSet_70 : decode cX12_flagsSet 70 = .ok (.aload_n 3, 1) := by decide +kernel
theorem dX12_flagsSet_71 : decode cX12_flagsSet 71 = .ok (.invokevirtual 58, 3) := by decide +kernel
theorem dX12_flagsSet_74 : decode cX12_flagsSet 74 = .ok (.putfield 110, 3) := by decide +kernel
theorem dX12_flagsSet_77 : decode cX12_flagsSet 77 = .ok (.iconst 0, 1) := by decide +kernel
theorem dX12_flagsSet_78 : decode cX12_flagsSet 78 = .ok (.istore 4, 2) := by decide +kernel
theorem dX12_flagsSet_2 : decode cX12_flagsSet 2 = .ok (.iload_n 2, 1) := by decide +kernel
theorem dX12_flagsSet_3 : decode cX12_flagsSet 3 = .ok (.bipush 32, 2) := by decide +kernel
theorem dX12_flagsSet_5 : decode cX12_flagsSet 5 = .ok (.if_icmp .ge 115, 3) := by decide +kernel
theorem dX12_flagsSet_120 : decode cX12_flagsSet 120 = .ok (.return_, 1) := by decide +kernel
theorem dX12_flagsSet_8 : decode cX12_flagsSet 8 = .ok (.aload_n 0, 1) := by decide +kernel
theorem fX12_700 : h_fl RX12 700 12 94 RX12 TX12 153 := ⟨rfl, by decide, inX12, h_t12 55 rfl rfl⟩
theorem dX12_flagsSet_9 : decode cX12_flagsSet 9 = .ok (.getfield 700, 3) := by decide +kernel
theorem dX12_flagsSet_12 : decode cX12_flagsSet 12 = .ok (.iload_n 2, 1) := by decide +kernel
theorem dX12_flagsSet_13 : decode cX12_flagsSet 13 = .ok (.iand, 1) := by decide +kernel
theorem dX12_flagsSet_14 : decode cX12_flagsSet 14 = .ok (.ifCond .ne 6, 3) := by decide +kernel
theorem dX12_flagsSet_20 : decode cX12_flagsSet 20 = .ok (.iload_n 2, 1) := by decide +kernel
theorem dX12_flagsSet_21 : decode cX12_flagsSet 21 = .ok (.iconst 1, 1) := by decide +kernel
theorem dX12_flagsSet_22 : decode cX12_flagsSet 22 = .ok (.if_icmp .ne 9, 3) := by decide +kernel
theorem dX12_flagsSet_31 : decode cX12_flagsSet 31 = .ok (.iload_n 2, 1) := by decide +kernel
theorem dX12_flagsSet_32 : decode cX12_flagsSet 32 = .ok (.iconst 2, 1) := by decide +kernel
theorem dX12_flagsSet_33 : decode cX12_flagsSet 33 = .ok (.if_icmp .ne 9, 3) := by decide +kernel
theorem dX12_flagsSet_42 : decode cX12_flagsSet 42 = .ok (.iload_n 2, 1) := by decide +kernel
theorem dX12_flagsSet_43 : decode cX12_flagsSet 43 = .ok (.iconst 4, 1) := by decide +kernel
theorem dX12_flagsSet_44 : decode cX12_flagsSet 44 = .ok (.if_icmp .ne 9, 3) := by decide +kernel
theorem dX12_flagsSet_53 : decode cX12_flagsSet 53 = .ok (.iload_n 2, 1) := by decide +kernel
theorem dX12_flagsSet_54 : decode cX12_flagsSet 54 = .ok (.bipush 8, 2) := by decide +kernel
theorem dX12_flagsSet_56 : decode cX12_flagsSet 56 = .ok (.if_icmp .ne 9, 3) := by decide +kernel
theorem dX12_flagsSet_65 : decode cX12_flagsSet 65 = .ok (.ldc_w 710, 3) := by decide +kernel
theorem dX12_flagsSet_59 : decode cX12_flagsSet 59 = .ok (.ldc_w 708, 3) := by decide +kernel
theorem dX12_flagsSet_62 : decode cX12_flagsSet 62 = .ok (.goto 6, 3) := by decide +kernel
theorem dX12_flagsSet_47 : decode cX12_flagsSet 47 = .ok (.ldc_w 706, 3) := by decide +kernel
theorem dX12_flagsSet_50 : decode cX12_flagsSet 50 = .ok (.goto 18, 3) := by decide +kernel
theorem dX12_flagsSet_36 : decode cX12_flagsSet 36 = .ok (.ldc_w 704, 3) := by decide +kernel
theorem dX12_flagsSet_39 : decode cX12_flagsSet 39 = .ok (.goto 29, 3) := by decide +kernel
theorem dX12_flagsSet_25 : decode cX12_flagsSet 25 = .ok (.ldc_w 702, 3) := by decide +kernel
theorem dX12_flagsSet_28 : decode cX12_flagsSet 28 = .ok (.goto 40, 3) := by decide +kernel
theorem dX12_flagsSet_17 : decode cX12_flagsSet 17 = .ok (.goto 96, 3) := by decide +kernel
theorem dX12_flagsSet_0 : decode cX12_flagsSet 0 = .ok (.iconst 1, 1) := by decide +kernel
theorem dX12_flagsSet_1 : decode cX12_flagsSet 1 = .ok (.istore_n 2, 1) := by decide +kernel
def fb_X12_flagsSet_80 (K2 : Int32 → Int32 → uS → Option uS) (K80 : Int32 → Int32 → List Nat → Int32 → uS → Option uS) (x1 : Int32) (x2 : Int32) (w3 : List Nat) (x4 : Int32) (s : uS) : Option uS := if (s.I 1079 21) ≤ x4 then ((fn_X12_value x1 s).bind fun s2 => K2 x1 (x2 * 2) s2) else ((stget w3 x4).bind fun v4 => (iput 20 s 1093 x4 v4).bind fun s6 => K80 x1 x2 w3 (x4 + 1) s6)
set_option maxRecDepth 100000 in
set_option maxHeartbeats 4000000 in
theorem xb_X12_flagsSet_80 {l : Launch} {D : va_G} {A : Nat → ClassId} {B : Nat} {Z : State → Heap → Prop} {vF : Value} (uk : uK B Z vF) {K2 : Int32 → Int32 → uS → Option uS} {K80 : Int32 → Int32 → List Nat → Int32 → uS → Option uS} (hK2 : ∀ (x1 : Int32) (x2 : Int32)  (s : uS) (r : uS), K2 x1 x2 s = some r → GU l D A B Z mX12_flagsSet 5 (r, none) s 2 [(0, .ref (B + 1079)), (1, .int x1), (2, .int x2)] []) (hK80 : ∀ (x1 : Int32) (x2 : Int32) (w3 : List Nat) (x4 : Int32) {qw3 pw3 : Nat} (hw3 : uStr B Z qw3 pw3 w3) (s : uS) (r : uS), K80 x1 x2 w3 x4 s = some r → GU l D A B Z mX12_flagsSet 5 (r, none) s 80 [(0, .ref (B + 1079)), (1, .int x1), (2, .int x2), (3, .ref qw3), (4, .int x4)] []) {x1 : Int32} {x2 : Int32} {w3 : List Nat} {x4 : Int32} {s : uS} {r : uS} {qw3 pw3 : Nat} (hw3 : uStr B Z qw3 pw3 w3) (h : fb_X12_flagsSet_80 K2 K80 x1 x2 w3 x4 s = some r) : GU l D A B Z mX12_flagsSet 5 (r, none) s 80 [(0, .ref (B + 1079)), (1, .int x1), (2, .int x2), (3, .ref qw3), (4, .int x4)] [] := by
  unfold fb_X12_flagsSet_80 at h
  refine uu_iload dX12_flagsSet_80 (List.mem_of_getElem? (i := 4) rfl) ?_
  refine uu_aload_n dX12_flagsSet_82 rfl (List.mem_of_getElem? (i := 0) rfl) ?_
  refine uu_geti (ci := 12) (N := 153) fX12_110 (by decide) so_1079.is (by decide) (by decide) dX12_flagsSet_83 ?_
  refine uu_icmp_ge (tgt := 108) dX12_flagsSet_86 (by decide) (fun c1 => ?_) (fun c1 => ?_)
  · replace h := uu_pos c1 h
    refine uu_aload_n dX12_flagsSet_108 rfl (List.mem_of_getElem? (i := 0) rfl) ?_
    refine uu_iload_n dX12_flagsSet_109 rfl (List.mem_of_getElem? (i := 1) rfl) ?_
    obtain ⟨s2, e3, h⟩ := uu_ob h
    refine uu_cv (d1 := 4) (k := 1079) (ci := 12) (T := TX12) (N := 153) (As := [.int x1]) (st := []) (st' := []) (xc_X12_value uk  e3) so_1079.is (by decide) rfl kX12_value lX12_664 sX12_value (by decide) (Nat.le_of_ble_eq_true rfl) dX12_flagsSet_110 rfl ?_
    refine uu_iload_n dX12_flagsSet_113 rfl (List.mem_of_getElem? (i := 2) rfl) ?_
    refine uu_iconst (v := 2) dX12_flagsSet_114 (by decide) ?_
    refine uu_imul dX12_flagsSet_115 ?_
    refine uu_istore_n dX12_flagsSet_116 rfl (by decide) rfl ?_
    refine uu_goto (tgt := 2) dX12_flagsSet_117 (by decide) ?_
    refine uu_lv [1, 2, 0] (lv' := [(0, .ref (B + 1079)), (1, .int x1), (2, .int (x2 * 2))]) rfl ?_
    exact hK2 x1 (x2 * 2) _ _ h
  · replace h := uu_neg c1 h
    refine uu_aload_n dX12_flagsSet_89 rfl (List.mem_of_getElem? (i := 0) rfl) ?_
    refine uu_geta (ci := 12) (N := 153) fX12_116 (by decide) so_1079.is (by decide) (c := 1093) (by decide) dX12_flagsSet_90 ?_
    refine uu_iload dX12_flagsSet_93 (List.mem_of_getElem? (i := 4) rfl) ?_
    refine uu_aload_n dX12_flagsSet_95 rfl (List.mem_of_getElem? (i := 3) rfl) ?_
    refine uu_iload dX12_flagsSet_96 (List.mem_of_getElem? (i := 4) rfl) ?_
    obtain ⟨v4, e5, h⟩ := uu_ob h
    refine uu_sch uk hw3 e5 lX12_64 (by decide) (Nat.le_of_ble_eq_true rfl) dX12_flagsSet_98 ?_
    obtain ⟨s6, e7, h⟩ := uu_ob h
    refine uu_iast e7 dX12_flagsSet_101 ?_
    refine uu_iinc (v := x4 + 1) dX12_flagsSet_102 (k := 4) rfl rfl (by decide) rfl ?_
    refine uu_goto (tgt := 80) dX12_flagsSet_105 (by decide) ?_
    refine uu_lv [1, 2, 3, 4, 0] (lv' := [(0, .ref (B + 1079)), (1, .int x1), (2, .int x2), (3, .ref qw3), (4, .int (x4 + 1))]) rfl ?_
    exact hK80 x1 x2 w3 (x4 + 1) hw3 _ _ h
def fn_X12_flagsSet_80 (K2 : Int32 → Int32 → uS → Option uS) : Nat → Int32 → Int32 → List Nat → Int32 → uS → Option uS
  | 0 => fun _ _ _ _ _ => none
  | n + 1 => fb_X12_flagsSet_80 K2 (fn_X12_flagsSet_80 K2 n)
set_option maxRecDepth 100000 in
set_option maxHeartbeats 4000000 in
theorem xn_X12_flagsSet_80 {l : Launch} {D : va_G} {A : Nat → ClassId} {B : Nat} {Z : State → Heap → Prop} {vF : Value} (uk : uK B Z vF) {K2 : Int32 → Int32 → uS → Option uS} (hK2 : ∀ (x1 : Int32) (x2 : Int32)  (s : uS) (r : uS), K2 x1 x2 s = some r → GU l D A B Z mX12_flagsSet 5 (r, none) s 2 [(0, .ref (B + 1079)), (1, .int x1), (2, .int x2)] []) : ∀ (n : Nat) (x1 : Int32) (x2 : Int32) (w3 : List Nat) (x4 : Int32) {qw3 pw3 : Nat} (hw3 : uStr B Z qw3 pw3 w3) (s : uS) (r : uS), fn_X12_flagsSet_80 K2 n x1 x2 w3 x4 s = some r → GU l D A B Z mX12_flagsSet 5 (r, none) s 80 [(0, .ref (B + 1079)), (1, .int x1), (2, .int x2), (3, .ref qw3), (4, .int x4)] [] := by
  intro n
  induction n with
  | zero => intro x1 x2 w3 x4 qw3 pw3 hw3 s r h
            cases h
  | succ n ih => intro x1 x2 w3 x4 qw3 pw3 hw3 s r h
                 exact xb_X12_flagsSet_80 uk hK2 ih hw3 h
def fb_X12_flagsSet_68 (K2 : Int32 → Int32 → uS → Option uS) (x1 : Int32) (x2 : Int32) (ws0 : List Nat) (s : uS) : Option uS := fn_X12_flagsSet_80 K2 uFu x1 x2 ws0 0 (wI s 1079 21 (nI ws0.length))
set_option maxRecDepth 100000 in
set_option maxHeartbeats 4000000 in
theorem xb_X12_flagsSet_68 {l : Launch} {D : va_G} {A : Nat → ClassId} {B : Nat} {Z : State → Heap → Prop} {vF : Value} (uk : uK B Z vF) {K2 : Int32 → Int32 → uS → Option uS} (hK2 : ∀ (x1 : Int32) (x2 : Int32)  (s : uS) (r : uS), K2 x1 x2 s = some r → GU l D A B Z mX12_flagsSet 5 (r, none) s 2 [(0, .ref (B + 1079)), (1, .int x1), (2, .int x2)] []) {x1 : Int32} {x2 : Int32} {ws0 : List Nat} {s : uS} {r : uS} {qws0 pws0 : Nat} (hws0 : uStr B Z qws0 pws0 ws0) (h : fb_X12_flagsSet_68 K2 x1 x2 ws0 s = some r) : GU l D A B Z mX12_flagsSet 5 (r, none) s 68 [(0, .ref (B + 1079)), (1, .int x1), (2, .int x2)] [.ref qws0] := by
  unfold fb_X12_flagsSet_68 at h
  refine uu_astore_n dX12_flagsSet_68 rfl (by decide) rfl ?_
  refine uu_aload_n dX12_flagsSet_69 rfl (List.mem_of_getElem? (i := 1) rfl) ?_
  refine uu_aload_n dX12_flagsSet_70 rfl (List.mem_of_getElem? (i := 0) rfl) ?_
  refine uu_slen uk hws0 lX12_58 (by decide) (Nat.le_of_ble_eq_true rfl) dX12_flagsSet_71 ?_
  refine uu_puti (ft := .int) (ci := 12) (N := 153) fX12_110 ptX12 (Or.inl rfl) (by decide) so_1079.is (by decide) (by decide) (by decide +kernel) rfl rfl dX12_flagsSet_74 ?_
  refine uu_iconst (v := 0) dX12_flagsSet_77 (by decide) ?_
  refine uu_istore dX12_flagsSet_78 (by decide) rfl ?_
  refine uu_lv [2, 3, 4, 1, 0] (lv' := [(0, .ref (B + 1079)), (1, .int x1), (2, .int x2), (3, .ref qws0), (4, .int 0)]) rfl ?_
  exact xn_X12_flagsSet_80 uk hK2 _ _ _ _ _ hws0 _ _ h
def fb_X12_flagsSet_2 (K2 : Int32 → Int32 → uS → Option uS) (x1 : Int32) (x2 : Int32) (s : uS) : Option uS := if (32 : Int32) ≤ x2 then (some s) else (if ((s.I 1079 94) &&& x2) = 0 then (K2 x1 (x2 * 2) s) else (if x2 = 1 then (fb_X12_flagsSet_68 K2 x1 x2 kW_137 s) else (if x2 = 2 then (fb_X12_flagsSet_68 K2 x1 x2 kW_138 s) else (if x2 = 4 then (fb_X12_flagsSet_68 K2 x1 x2 kW_139 s) else (if x2 = 8 then (fb_X12_flagsSet_68 K2 x1 x2 kW_140 s) else (fb_X12_flagsSet_68 K2 x1 x2 kW_141 s))))))
set_option maxRecDepth 100000 in
set_option maxHeartbeats 4000000 in
theorem xb_X12_flagsSet_2 {l : Launch} {D : va_G} {A : Nat → ClassId} {B : Nat} {Z : State → Heap → Prop} {vF : Value} (uk : uK B Z vF) {K2 : Int32 → Int32 → uS → Option uS} (hK2 : ∀ (x1 : Int32) (x2 : Int32)  (s : uS) (r : uS), K2 x1 x2 s = some r → GU l D A B Z mX12_flagsSet 5 (r, none) s 2 [(0, .ref (B + 1079)), (1, .int x1), (2, .int x2)] []) {x1 : Int32} {x2 : Int32} {s : uS} {r : uS}  (h : fb_X12_flagsSet_2 K2 x1 x2 s = some r) : GU l D A B Z mX12_flagsSet 5 (r, none) s 2 [(0, .ref (B + 1079)), (1, .int x1), (2, .int x2)] [] := by
  unfold fb_X12_flagsSet_2 at h
  refine uu_iload_n dX12_flagsSet_2 rfl (List.mem_of_getElem? (i := 2) rfl) ?_
  refine uu_bipush (v := 32) dX12_flagsSet_3 (by decide) ?_
  refine uu_icmp_ge (tgt := 120) dX12_flagsSet_5 (by decide) (fun c1 => ?_) (fun c1 => ?_)
  · replace h := uu_pos c1 h
    have hr := Option.some.inj h
    subst hr
    exact uu_vret rfl dX12_flagsSet_120
  · replace h := uu_neg c1 h
    refine uu_aload_n dX12_flagsSet_8 rfl (List.mem_of_getElem? (i := 0) rfl) ?_
    refine uu_geti (ci := 12) (N := 153) fX12_700 (by decide) so_1079.is (by decide) (by decide) dX12_flagsSet_9 ?_
    refine uu_iload_n dX12_flagsSet_12 rfl (List.mem_of_getElem? (i := 2) rfl) ?_
    refine uu_iand dX12_flagsSet_13 ?_
    refine uu_if_ne (tgt := 20) dX12_flagsSet_14 (by decide) (fun c2 => ?_) (fun c2 => ?_)
    · replace h := uu_neg c2 h
      refine uu_iload_n dX12_flagsSet_20 rfl (List.mem_of_getElem? (i := 2) rfl) ?_
      refine uu_iconst (v := 1) dX12_flagsSet_21 (by decide) ?_
      refine uu_icmp_ne (tgt := 31) dX12_flagsSet_22 (by decide) (fun c3 => ?_) (fun c3 => ?_)
      · replace h := uu_neg c3 h
        refine uu_iload_n dX12_flagsSet_31 rfl (List.mem_of_getElem? (i := 2) rfl) ?_
        refine uu_iconst (v := 2) dX12_flagsSet_32 (by decide) ?_
        refine uu_icmp_ne (tgt := 42) dX12_flagsSet_33 (by decide) (fun c4 => ?_) (fun c4 => ?_)
        · replace h := uu_neg c4 h
          refine uu_iload_n dX12_flagsSet_42 rfl (List.mem_of_getElem? (i := 2) rfl) ?_
          refine uu_iconst (v := 4) dX12_flagsSet_43 (by decide) ?_
          refine uu_icmp_ne (tgt := 53) dX12_flagsSet_44 (by decide) (fun c5 => ?_) (fun c5 => ?_)
          · replace h := uu_neg c5 h
            refine uu_iload_n dX12_flagsSet_53 rfl (List.mem_of_getElem? (i := 2) rfl) ?_
            refine uu_bipush (v := 8) dX12_flagsSet_54 (by decide) ?_
            refine uu_icmp_ne (tgt := 65) dX12_flagsSet_56 (by decide) (fun c6 => ?_) (fun c6 => ?_)
            · replace h := uu_neg c6 h
              obtain ⟨cq7, cp7, cv7, cw7⟩ := uk.2.1 141 _ rfl
              refine uu_ldcwS cv7 dX12_flagsSet_65 ?_
              exact xb_X12_flagsSet_68 uk hK2 cw7 h
            · replace h := uu_pos c6 h
              obtain ⟨cq8, cp8, cv8, cw8⟩ := uk.2.1 140 _ rfl
              refine uu_ldcwS cv8 dX12_flagsSet_59 ?_
              refine uu_goto (tgt := 68) dX12_flagsSet_62 (by decide) ?_
              exact xb_X12_flagsSet_68 uk hK2 cw8 h
          · replace h := uu_pos c5 h
            obtain ⟨cq9, cp9, cv9, cw9⟩ := uk.2.1 139 _ rfl
            refine uu_ldcwS cv9 dX12_flagsSet_47 ?_
            refine uu_goto (tgt := 68) dX12_flagsSet_50 (by decide) ?_
            exact xb_X12_flagsSet_68 uk hK2 cw9 h
        · replace h := uu_pos c4 h
          obtain ⟨cq10, cp10, cv10, cw10⟩ := uk.2.1 138 _ rfl
          refine uu_ldcwS cv10 dX12_flagsSet_36 ?_
          refine uu_goto (tgt := 68) dX12_flagsSet_39 (by decide) ?_
          exact xb_X12_flagsSet_68 uk hK2 cw10 h
      · replace h := uu_pos c3 h
        obtain ⟨cq11, cp11, cv11, cw11⟩ := uk.2.1 137 _ rfl
        refine uu_ldcwS cv11 dX12_flagsSet_25 ?_
        refine uu_goto (tgt := 68) dX12_flagsSet_28 (by decide) ?_
        exact xb_X12_flagsSet_68 uk hK2 cw11 h
    · replace h := uu_pos c2 h
      refine uu_goto (tgt := 113) dX12_flagsSet_17 (by decide) ?_
      refine uu_iload_n dX12_flagsSet_113 rfl (List.mem_of_getElem? (i := 2) rfl) ?_
      refine uu_iconst (v := 2) dX12_flagsSet_114 (by decide) ?_
      refine uu_imul dX12_flagsSet_115 ?_
      refine uu_istore_n dX12_flagsSet_116 rfl (by decide) rfl ?_
      refine uu_goto (tgt := 2) dX12_flagsSet_117 (by decide) ?_
      refine uu_lv [1, 2, 0] (lv' := [(0, .ref (B + 1079)), (1, .int x1), (2, .int (x2 * 2))]) rfl ?_
      exact hK2 x1 (x2 * 2) _ _ h
def fn_X12_flagsSet_2  : Nat → Int32 → Int32 → uS → Option uS
  | 0 => fun _ _ _ => none
  | n + 1 => fb_X12_flagsSet_2 (fn_X12_flagsSet_2  n)
set_option maxRecDepth 100000 in
set_option maxHeartbeats 4000000 in
theorem xn_X12_flagsSet_2 {l : Launch} {D : va_G} {A : Nat → ClassId} {B : Nat} {Z : State → Heap → Prop} {vF : Value} (uk : uK B Z vF)   : ∀ (n : Nat) (x1 : Int32) (x2 : Int32)  (s : uS) (r : uS), fn_X12_flagsSet_2  n x1 x2 s = some r → GU l D A B Z mX12_flagsSet 5 (r, none) s 2 [(0, .ref (B + 1079)), (1, .int x1), (2, .int x2)] [] := by
  intro n
  induction n with
  | zero => intro x1 x2 s r h
            cases h
  | succ n ih => intro x1 x2 s r h
                 exact xb_X12_flagsSet_2 uk ih  h
def fn_X12_flagsSet (x1 : Int32) (s : uS) : Option uS := fn_X12_flagsSet_2 uFu x1 1 s
set_option maxRecDepth 100000 in
set_option maxHeartbeats 4000000 in
theorem xc_X12_flagsSet {l : Launch} {D : va_G} {A : Nat → ClassId} {B : Nat} {Z : State → Heap → Prop} {vF : Value} (uk : uK B Z vF) {x1 : Int32} {s : uS} {r : uS}  (h : fn_X12_flagsSet x1 s = some r) : CU l D A B Z 5 mX12_flagsSet s [.ref (B + 1079), .int x1] (r, none) := by
  unfold fn_X12_flagsSet at h
  refine cu_of rfl uk.1.1 (Nat.le_of_ble_eq_true rfl) ?_
  show GU _ _ _ _ _ _ _ _ _ 0 [(0, .ref (B + 1079)), (1, .int x1)] []
  refine uu_iconst (v := 1) dX12_flagsSet_0 (by decide) ?_
  refine uu_istore_n dX12_flagsSet_1 rfl (by decide) rfl ?_
  refine uu_lv [1, 2, 0] (lv' := [(0, .ref (B + 1079)), (1, .int x1), (2, .int 1)]) rfl ?_
  exact xn_X12_flagsSet_2 uk  _ _ _ _ _ h
abbrev mX12_exists : hM := (yX12_exists, cX12_exists, 6, (some (.boolean)))
theorem dX12_exists_20 : decode cX12_exists 20 = .ok (.iload 5, 2) := by decide +kernel
theorem dX12_exists_22 : decode cX12_exists 22 = .ok (.aload_n 0, 1) := by decide +kernel
theorem dX12_exists_23 : decode cX12_exists 23 = .ok (.getfield 85, 3) := by decide +kernel
theorem dX12_exists_26 : decode cX12_exists 26 = .ok (.if_icmp .ge 38, 3) := by decide +kernel
theorem dX12_exists_64 : decode cX12_exists 64 = .ok (.iload_n 2, 1) := by decide +kernel
theorem dX12_exists_65 : decode cX12_exists 65 = .ok (.ifCond .eq 12, 3) := by decide +kernel
theorem dX12_exists_77 : decode cX12_exists 77 = .ok (.iconst 0, 1) := by decide +kernel
theorem dX12_exists_78 : decode cX12_exists 78 = .ok (.istore_n 2, 1) := by decide +kernel
theorem dX12_exists_79 : decode cX12_exists 79 = .ok (.iinc 3 1, 3) := by decide +kernel
theorem dX12_exists_82 : decode cX12_exists 82 = .ok (.goto (-78), 3) := by decide +kernel
theorem dX12_exists_68 : decode cX12_exists 68 = .ok (.iload 4, 2) := by decide +kernel
theorem dX12_exists_70 : decode cX12_exists 70 = .ok (.ifCond .eq 7, 3) := by decide +kernel
theorem dX12_exists_73 : decode cX12_exists 73 = .ok (.iconst 1, 1) := by decide +kernel
theorem dX12_exists_74 : decode cX12_exists 74 = .ok (.goto 4, 3) := by decide +kernel
theorem dX12_exists_29 : decode cX12_exists 29 = .ok (.iload 4, 2) := by decide +kernel
theorem dX12_exists_31 : decode cX12_exists 31 = .ok (.ifCond .ne 20, 3) := by decide +kernel
theorem dX12_exists_51 : decode cX12_exists 51 = .ok (.iconst 1, 1) := by decide +kernel
theorem dX12_exists_52 : decode cX12_exists 52 = .ok (.goto 4, 3) := by decide +kernel
theorem dX12_exists_56 : decode cX12_exists 56 = .ok (.istore 4, 2) := by decide +kernel
theorem dX12_exists_58 : decode cX12_exists 58 = .ok (.iinc 5 1, 3) := by decide +kernel
theorem dX12_exists_61 : decode cX12_exists 61 = .ok (.goto (-41), 3) := by decide +kernel
theorem dX12_exists_34 : decode cX12_exists 34 = .ok (.aload_n 0, 1) := by decide +kernel
theorem dX12_exists_35 : decode cX12_exists 35 = .ok (.iload 5, 2) := by decide +kernel
theorem dX12_exists_37 : decode cX12_exists 37 = .ok (.aload_n 0, 1) := by decide +kernel
theorem dX12_exists_38 : decode cX12_exists 38 = .ok (.getfield 439, 3) := by decide +kernel
theorem dX12_exists_41 : decode cX12_exists 41 = .ok (.iload_n 1, 1) := by decide +kernel
theorem dX12_exists_42 : decode cX12_exists 42 = .ok (.iaload, 1) := by decide +kernel
theorem dX12_exists_43 : decode cX12_exists 43 = .ok (.iload_n 3, 1) := by decide +kernel
theorem dX12_exists_44 : decode cX12_exists 44 = .ok (.iadd, 1) := by decide +kernel
theorem dX12_exists_45 : decode cX12_exists 45 = .ok (.invokevirtual 655, 3) := by decide +kernel
theorem dX12_exists_48 : decode cX12_exists 48 = .ok (.ifCond .eq 7, 3) := by decide +kernel
theorem dX12_exists_55 : decode cX12_exists 55 = .ok (.iconst 0, 1) := by decide +kernel
theorem dX12_exists_4 : decode cX12_exists 4 = .ok (.iload_n 3, 1) := by decide +kernel
theorem dX12_exists_5 : decode cX12_exists 5 = .ok (.aload_n 0, 1) := by decide +kernel
theorem dX12_exists_6 : decode cX12_exists 6 = .ok (.getfield 297, 3) := by decide +kernel
theorem dX12_exists_9 : decode cX12_exists 9 = .ok (.iload_n 1, 1) := by decide +kernel
theorem dX12_exists_10 : decode cX12_exists 10 = .ok (.iaload, 1) := by decide +kernel
theorem dX12_exists_11 : decode cX12_exists 11 = .ok (.if_icmp .ge 74, 3) := by decide +kernel
theorem dX12_exists_85 : decode cX12_exists 85 = .ok (.iload_n 2, 1) := by decide +kernel
theorem dX12_exists_86 : decode cX12_exists 86 = .ok (.ireturn, 1) := by decide +kernel
theorem dX12_exists_14 : decode cX12_exists 14 = .ok (.iconst 0, 1) := by decide +kernel
theorem dX12_exists_15 : decode cX12_exists 15 = .ok (.istore 4, 2) := by decide +kernel
theorem dX12_exists_17 : decode cX12_exists 17 = .ok (.iconst 0, 1) := by decide +kernel
theorem dX12_exists_18 : decode cX12_exists 18 = .ok (.istore 5, 2) := by decide +kernel
theorem dX12_exists_0 : decode cX12_exists 0 = .ok (.iconst 1, 1) := by decide +kernel
theorem dX12_exists_1 : decode cX12_exists 1 = .ok (.istore_n 2, 1) := by decide +kernel
theorem dX12_exists_2 : decode cX12_exists 2 = .ok (.iconst 0, 1) := by decide +kernel
theorem dX12_exists_3 : decode cX12_exists 3 = .ok (.istore_n 3, 1) := by decide +kernel
def fb_X12_exists_20 (K4 : Int32 → Bool → Int32 → uS → Option Bool) (K20 : Int32 → Bool → Int32 → Bool → Int32 → uS → Option Bool) (x1 : Int32) (b2 : Bool) (x3 : Int32) (b4 : Bool) (x5 : Int32) (s : uS) : Option Bool := if (s.I 1079 14) ≤ x5 then (if b2 = true then (if b4 = true then (K4 x1 true (x3 + 1) s) else (K4 x1 false (x3 + 1) s)) else (K4 x1 false (x3 + 1) s)) else (if b4 = true then (K20 x1 b2 x3 true (x5 + 1) s) else ((iget 20 s 1102 x1).bind fun v5 => (fn_X12_isNamed x5 (v5 + x3) s).bind fun v7 => if v7 = true then (K20 x1 b2 x3 true (x5 + 1) s) else (K20 x1 b2 x3 false (x5 + 1) s)))
set_option maxRecDepth 100000 in
set_option maxHeartbeats 4000000 in
theorem xb_X12_exists_20 {l : Launch} {D : va_G} {A : Nat → ClassId} {B : Nat} {Z : State → Heap → Prop} {vF : Value} (uk : uK B Z vF) {K4 : Int32 → Bool → Int32 → uS → Option Bool} {K20 : Int32 → Bool → Int32 → Bool → Int32 → uS → Option Bool} (hK4 : ∀ (x1 : Int32) (b2 : Bool) (x3 : Int32)  (s : uS) (r : Bool), K4 x1 b2 x3 s = some r → GU l D A B Z mX12_exists 2 (s, some (.int (bI r))) s 4 [(0, .ref (B + 1079)), (1, .int x1), (2, .int (bI b2)), (3, .int x3)] []) (hK20 : ∀ (x1 : Int32) (b2 : Bool) (x3 : Int32) (b4 : Bool) (x5 : Int32)  (s : uS) (r : Bool), K20 x1 b2 x3 b4 x5 s = some r → GU l D A B Z mX12_exists 2 (s, some (.int (bI r))) s 20 [(0, .ref (B + 1079)), (1, .int x1), (2, .int (bI b2)), (3, .int x3), (4, .int (bI b4)), (5, .int x5)] []) {x1 : Int32} {b2 : Bool} {x3 : Int32} {b4 : Bool} {x5 : Int32} {s : uS} {r : Bool}  (h : fb_X12_exists_20 K4 K20 x1 b2 x3 b4 x5 s = some r) : GU l D A B Z mX12_exists 2 (s, some (.int (bI r))) s 20 [(0, .ref (B + 1079)), (1, .int x1), (2, .int (bI b2)), (3, .int x3), (4, .int (bI b4)), (5, .int x5)] [] := by
  unfold fb_X12_exists_20 at h
  refine uu_iload dX12_exists_20 (List.mem_of_getElem? (i := 5) rfl) ?_
  refine uu_aload_n dX12_exists_22 rfl (List.mem_of_getElem? (i := 0) rfl) ?_
  refine uu_geti (ci := 12) (N := 153) fX12_85 (by decide) so_1079.is (by decide) (by decide) dX12_exists_23 ?_
  refine uu_icmp_ge (tgt := 64) dX12_exists_26 (by decide) (fun c1 => ?_) (fun c1 => ?_)
  · replace h := uu_pos c1 h
    refine uu_iload_n dX12_exists_64 rfl (List.mem_of_getElem? (i := 2) rfl) ?_
    refine uu_ifb_eq (tgt := 77) dX12_exists_65 (by decide) (fun c2 => ?_) (fun c2 => ?_)
    · replace h := uu_neg c2 h
      refine uu_iconst (v := 0) dX12_exists_77 (by decide) ?_
      refine uu_istore_n dX12_exists_78 rfl (by decide) rfl ?_
      refine uu_iinc (v := x3 + 1) dX12_exists_79 (k := 3) rfl rfl (by decide) rfl ?_
      refine uu_goto (tgt := 4) dX12_exists_82 (by decide) ?_
      refine uu_lv [2, 3, 1, 0] (lv' := [(0, .ref (B + 1079)), (1, .int x1), (2, .int 0), (3, .int (x3 + 1))]) rfl ?_
      exact hK4 x1 false (x3 + 1) _ _ h
    · replace h := uu_pos c2 h
      refine uu_iload dX12_exists_68 (List.mem_of_getElem? (i := 4) rfl) ?_
      refine uu_ifb_eq (tgt := 77) dX12_exists_70 (by decide) (fun c3 => ?_) (fun c3 => ?_)
      · replace h := uu_neg c3 h
        refine uu_iconst (v := 0) dX12_exists_77 (by decide) ?_
        refine uu_istore_n dX12_exists_78 rfl (by decide) rfl ?_
        refine uu_iinc (v := x3 + 1) dX12_exists_79 (k := 3) rfl rfl (by decide) rfl ?_
        refine uu_goto (tgt := 4) dX12_exists_82 (by decide) ?_
        refine uu_lv [2, 3, 1, 0] (lv' := [(0, .ref (B + 1079)), (1, .int x1), (2, .int 0), (3, .int (x3 + 1))]) rfl ?_
        exact hK4 x1 false (x3 + 1) _ _ h
      · replace h := uu_pos c3 h
        refine uu_iconst (v := 1) dX12_exists_73 (by decide) ?_
        refine uu_goto (tgt := 78) dX12_exists_74 (by decide) ?_
        refine uu_istore_n dX12_exists_78 rfl (by decide) rfl ?_
        refine uu_iinc (v := x3 + 1) dX12_exists_79 (k := 3) rfl rfl (by decide) rfl ?_
        refine uu_goto (tgt := 4) dX12_exists_82 (by decide) ?_
        refine uu_lv [2, 3, 1, 0] (lv' := [(0, .ref (B + 1079)), (1, .int x1), (2, .int 1), (3, .int (x3 + 1))]) rfl ?_
        exact hK4 x1 true (x3 + 1) _ _ h
  · replace h := uu_neg c1 h
    refine uu_iload dX12_exists_29 (List.mem_of_getElem? (i := 4) rfl) ?_
    refine uu_ifb_ne (tgt := 51) dX12_exists_31 (by decide) (fun c4 => ?_) (fun c4 => ?_)
    · replace h := uu_pos c4 h
      refine uu_iconst (v := 1) dX12_exists_51 (by decide) ?_
      refine uu_goto (tgt := 56) dX12_exists_52 (by decide) ?_
      refine uu_istore dX12_exists_56 (by decide) rfl ?_
      refine uu_iinc (v := x5 + 1) dX12_exists_58 (k := 5) rfl rfl (by decide) rfl ?_
      refine uu_goto (tgt := 20) dX12_exists_61 (by decide) ?_
      refine uu_lv [2, 3, 4, 5, 1, 0] (lv' := [(0, .ref (B + 1079)), (1, .int x1), (2, .int (bI b2)), (3, .int x3), (4, .int 1), (5, .int (x5 + 1))]) rfl ?_
      exact hK20 x1 b2 x3 true (x5 + 1) _ _ h
    · replace h := uu_neg c4 h
      refine uu_aload_n dX12_exists_34 rfl (List.mem_of_getElem? (i := 0) rfl) ?_
      refine uu_iload dX12_exists_35 (List.mem_of_getElem? (i := 5) rfl) ?_
      refine uu_aload_n dX12_exists_37 rfl (List.mem_of_getElem? (i := 0) rfl) ?_
      refine uu_geta (ci := 12) (N := 153) fX12_439 (by decide) so_1079.is (by decide) (c := 1102) (by decide) dX12_exists_38 ?_
      refine uu_iload_n dX12_exists_41 rfl (List.mem_of_getElem? (i := 1) rfl) ?_
      obtain ⟨v5, e6, h⟩ := uu_ob h
      refine uu_iald e6 dX12_exists_42 ?_
      refine uu_iload_n dX12_exists_43 rfl (List.mem_of_getElem? (i := 3) rfl) ?_
      refine uu_iadd dX12_exists_44 ?_
      obtain ⟨v7, e8, h⟩ := uu_ob h
      refine uu_cv (d1 := 1) (k := 1079) (ci := 12) (T := TX12) (N := 153) (As := [.int x5, .int (v5 + x3)]) (st := []) (st' := [.int (bI v7)]) (xc_X12_isNamed uk  e8) so_1079.is (by decide) rfl kX12_isNamed lX12_655 sX12_isNamed (by decide) (Nat.le_of_ble_eq_true rfl) dX12_exists_45 rfl ?_
      refine uu_ifb_eq (tgt := 55) dX12_exists_48 (by decide) (fun c9 => ?_) (fun c9 => ?_)
      · replace h := uu_neg c9 h
        refine uu_iconst (v := 0) dX12_exists_55 (by decide) ?_
        refine uu_istore dX12_exists_56 (by decide) rfl ?_
        refine uu_iinc (v := x5 + 1) dX12_exists_58 (k := 5) rfl rfl (by decide) rfl ?_
        refine uu_goto (tgt := 20) dX12_exists_61 (by decide) ?_
        refine uu_lv [2, 3, 4, 5, 1, 0] (lv' := [(0, .ref (B + 1079)), (1, .int x1), (2, .int (bI b2)), (3, .int x3), (4, .int 0), (5, .int (x5 + 1))]) rfl ?_
        exact hK20 x1 b2 x3 false (x5 + 1) _ _ h
      · replace h := uu_pos c9 h
        refine uu_iconst (v := 1) dX12_exists_51 (by decide) ?_
        refine uu_goto (tgt := 56) dX12_exists_52 (by decide) ?_
        refine uu_istore dX12_exists_56 (by decide) rfl ?_
        refine uu_iinc (v := x5 + 1) dX12_exists_58 (k := 5) rfl rfl (by decide) rfl ?_
        refine uu_goto (tgt := 20) dX12_exists_61 (by decide) ?_
        refine uu_lv [2, 3, 4, 5, 1, 0] (lv' := [(0, .ref (B + 1079)), (1, .int x1), (2, .int (bI b2)), (3, .int x3), (4, .int 1), (5, .int (x5 + 1))]) rfl ?_
        exact hK20 x1 b2 x3 true (x5 + 1) _ _ h
def fn_X12_exists_20 (K4 : Int32 → Bool → Int32 → uS → Option Bool) : Nat → Int32 → Bool → Int32 → Bool → Int32 → uS → Option Bool
  | 0 => fun _ _ _ _ _ _ => none
  | n + 1 => fb_X12_exists_20 K4 (fn_X12_exists_20 K4 n)
set_option maxRecDepth 100000 in
set_option maxHeartbeats 4000000 in
theorem xn_X12_exists_20 {l : Launch} {D : va_G} {A : Nat → ClassId} {B : Nat} {Z : State → Heap → Prop} {vF : Value} (uk : uK B Z vF) {K4 : Int32 → Bool → Int32 → uS → Option Bool} (hK4 : ∀ (x1 : Int32) (b2 : Bool) (x3 : Int32)  (s : uS) (r : Bool), K4 x1 b2 x3 s = some r → GU l D A B Z mX12_exists 2 (s, some (.int (bI r))) s 4 [(0, .ref (B + 1079)), (1, .int x1), (2, .int (bI b2)), (3, .int x3)] []) : ∀ (n : Nat) (x1 : Int32) (b2 : Bool) (x3 : Int32) (b4 : Bool) (x5 : Int32)  (s : uS) (r : Bool), fn_X12_exists_20 K4 n x1 b2 x3 b4 x5 s = some r → GU l D A B Z mX12_exists 2 (s, some (.int (bI r))) s 20 [(0, .ref (B + 1079)), (1, .int x1), (2, .int (bI b2)), (3, .int x3), (4, .int (bI b4)), (5, .int x5)] [] := by
  intro n
  induction n with
  | zero => intro x1 b2 x3 b4 x5 s r h
            cases h
  | succ n ih => intro x1 b2 x3 b4 x5 s r h
                 exact xb_X12_exists_20 uk hK4 ih  h
def fb_X12_exists_4 (K4 : Int32 → Bool → Int32 → uS → Option Bool) (x1 : Int32) (b2 : Bool) (x3 : Int32) (s : uS) : Option Bool := (iget 20 s 1103 x1).bind fun v1 => if v1 ≤ x3 then (some b2) else (fn_X12_exists_20 K4 uFu x1 b2 x3 false 0 s)
set_option maxRecDepth 100000 in
set_option maxHeartbeats 4000000 in
theorem xb_X12_exists_4 {l : Launch} {D : va_G} {A : Nat → ClassId} {B : Nat} {Z : State → Heap → Prop} {vF : Value} (uk : uK B Z vF) {K4 : Int32 → Bool → Int32 → uS → Option Bool} (hK4 : ∀ (x1 : Int32) (b2 : Bool) (x3 : Int32)  (s : uS) (r : Bool), K4 x1 b2 x3 s = some r → GU l D A B Z mX12_exists 2 (s, some (.int (bI r))) s 4 [(0, .ref (B + 1079)), (1, .int x1), (2, .int (bI b2)), (3, .int x3)] []) {x1 : Int32} {b2 : Bool} {x3 : Int32} {s : uS} {r : Bool}  (h : fb_X12_exists_4 K4 x1 b2 x3 s = some r) : GU l D A B Z mX12_exists 2 (s, some (.int (bI r))) s 4 [(0, .ref (B + 1079)), (1, .int x1), (2, .int (bI b2)), (3, .int x3)] [] := by
  unfold fb_X12_exists_4 at h
  refine uu_iload_n dX12_exists_4 rfl (List.mem_of_getElem? (i := 3) rfl) ?_
  refine uu_aload_n dX12_exists_5 rfl (List.mem_of_getElem? (i := 0) rfl) ?_
  refine uu_geta (ci := 12) (N := 153) fX12_297 (by decide) so_1079.is (by decide) (c := 1103) (by decide) dX12_exists_6 ?_
  refine uu_iload_n dX12_exists_9 rfl (List.mem_of_getElem? (i := 1) rfl) ?_
  obtain ⟨v1, e2, h⟩ := uu_ob h
  refine uu_iald e2 dX12_exists_10 ?_
  refine uu_icmp_ge (tgt := 85) dX12_exists_11 (by decide) (fun c3 => ?_) (fun c3 => ?_)
  · replace h := uu_pos c3 h
    refine uu_iload_n dX12_exists_85 rfl (List.mem_of_getElem? (i := 2) rfl) ?_
    have hr := Option.some.inj h
    subst hr
    exact uu_zret (x := bI b2) rfl (bI_z _) dX12_exists_86
  · replace h := uu_neg c3 h
    refine uu_iconst (v := 0) dX12_exists_14 (by decide) ?_
    refine uu_istore dX12_exists_15 (by decide) rfl ?_
    refine uu_iconst (v := 0) dX12_exists_17 (by decide) ?_
    refine uu_istore dX12_exists_18 (by decide) rfl ?_
    refine uu_lv [2, 3, 4, 5, 1, 0] (lv' := [(0, .ref (B + 1079)), (1, .int x1), (2, .int (bI b2)), (3, .int x3), (4, .int 0), (5, .int 0)]) rfl ?_
    exact xn_X12_exists_20 uk hK4 _ _ _ _ _ _ _ _ h
def fn_X12_exists_4  : Nat → Int32 → Bool → Int32 → uS → Option Bool
  | 0 => fun _ _ _ _ => none
  | n + 1 => fb_X12_exists_4 (fn_X12_exists_4  n)
set_option maxRecDepth 100000 in
set_option maxHeartbeats 4000000 in
theorem xn_X12_exists_4 {l : Launch} {D : va_G} {A : Nat → ClassId} {B : Nat} {Z : State → Heap → Prop} {vF : Value} (uk : uK B Z vF)   : ∀ (n : Nat) (x1 : Int32) (b2 : Bool) (x3 : Int32)  (s : uS) (r : Bool), fn_X12_exists_4  n x1 b2 x3 s = some r → GU l D A B Z mX12_exists 2 (s, some (.int (bI r))) s 4 [(0, .ref (B + 1079)), (1, .int x1), (2, .int (bI b2)), (3, .int x3)] [] := by
  intro n
  induction n with
  | zero => intro x1 b2 x3 s r h
            cases h
  | succ n ih => intro x1 b2 x3 s r h
                 exact xb_X12_exists_4 uk ih  h
def fn_X12_exists (x1 : Int32) (s : uS) : Option Bool := fn_X12_exists_4 uFu x1 true 0 s
set_option maxRecDepth 100000 in
set_option maxHeartbeats 4000000 in
theorem xc_X12_exists {l : Launch} {D : va_G} {A : Nat → ClassId} {B : Nat} {Z : State → Heap → Prop} {vF : Value} (uk : uK B Z vF) {x1 : Int32} {s : uS} {r : Bool}  (h : fn_X12_exists x1 s = some r) : CU l D A B Z 2 mX12_exists s [.ref (B + 1079), .int x1] (s, some (.int (bI r))) := by
  unfold fn_X12_exists at h
  refine cu_of rfl uk.1.1 (Nat.le_of_ble_eq_true rfl) ?_
  show GU _ _ _ _ _ _ _ _ _ 0 [(0, .ref (B + 1079)), (1, .int x1)] []
  refine uu_iconst (v := 1) dX12_exists_0 (by decide) ?_
  refine uu_istore_n dX12_exists_1 rfl (by decide) rfl ?_
  refine uu_iconst (v := 0) dX12_exists_2 (by decide) ?_
  refine uu_istore_n dX12_exists_3 rfl (by decide) rfl ?_
  refine uu_lv [2, 3, 1, 0] (lv' := [(0, .ref (B + 1079)), (1, .int x1), (2, .int 1), (3, .int 0)]) rfl ?_
  exact xn_X12_exists_4 uk  _ _ _ _ _ _ h
abbrev mX12_isInbox : hM := (yX12_isInbox, cX12_isInbox, 2, (some (.boolean)))
theorem dX12_isInbox_0 : decode cX12_isInbox 0 = .ok (.iload_n 1, 1) := by decide +kernel
theorem dX12_isInbox_1 : decode cX12_isInbox 1 = .ok (.iconst (-1), 1) := by decide +kernel
theorem dX12_isInbox_2 : decode cX12_isInbox 2 = .ok (.if_icmp .ne 5, 3) := by decide +kernel
theorem dX12_isInbox_7 : decode cX12_isInbox 7 = .ok (.aload_n 0, 1) := by decide +kernel
theorem dX12_isInbox_8 : decode cX12_isInbox 8 = .ok (.iload_n 1, 1) := by decide +kernel
theorem dX12_isInbox_9 : decode cX12_isInbox 9 = .ok (.invokevirtual 466, 3) := by decide +kernel
theorem dX12_isInbox_12 : decode cX12_isInbox 12 = .ok (.aload_n 0, 1) := by decide +kernel
theorem dX12_isInbox_13 : decode cX12_isInbox 13 = .ok (.ldc_w 767, 3) := by decide +kernel
theorem dX12_isInbox_16 : decode cX12_isInbox 16 = .ok (.invokevirtual 158, 3) := by decide +kernel
theorem dX12_isInbox_19 : decode cX12_isInbox 19 = .ok (.ireturn, 1) := by decide +kernel
theorem dX12_isInbox_5 : decode cX12_isInbox 5 = .ok (.iconst 1, 1) := by decide +kernel
theorem dX12_isInbox_6 : decode cX12_isInbox 6 = .ok (.ireturn, 1) := by decide +kernel
def fn_X12_isInbox (x1 : Int32) (s : uS) : Option (uS × Bool) := if x1 = (-1) then (some (s, true)) else ((fn_X12_oneString x1 s).bind fun s2 => (fn_X12_oneIs kW_142 s2).bind fun r5 => some (r5.1, r5.2))
set_option maxRecDepth 100000 in
set_option maxHeartbeats 4000000 in
theorem xc_X12_isInbox {l : Launch} {D : va_G} {A : Nat → ClassId} {B : Nat} {Z : State → Heap → Prop} {vF : Value} (uk : uK B Z vF) {x1 : Int32} {s : uS} {r : (uS × Bool)}  (h : fn_X12_isInbox x1 s = some r) : CU l D A B Z 6 mX12_isInbox s [.ref (B + 1079), .int x1] (r.1, some (.int (bI r.2))) := by
  unfold fn_X12_isInbox at h
  refine cu_of rfl uk.1.1 (Nat.le_of_ble_eq_true rfl) ?_
  show GU _ _ _ _ _ _ _ _ _ 0 [(0, .ref (B + 1079)), (1, .int x1)] []
  refine uu_iload_n dX12_isInbox_0 rfl (List.mem_of_getElem? (i := 1) rfl) ?_
  refine uu_iconst (v := -1) dX12_isInbox_1 (by decide) ?_
  refine uu_icmp_ne (tgt := 7) dX12_isInbox_2 (by decide) (fun c1 => ?_) (fun c1 => ?_)
  · replace h := uu_neg c1 h
    refine uu_aload_n dX12_isInbox_7 rfl (List.mem_of_getElem? (i := 0) rfl) ?_
    refine uu_iload_n dX12_isInbox_8 rfl (List.mem_of_getElem? (i := 1) rfl) ?_
    obtain ⟨s2, e3, h⟩ := uu_ob h
    refine uu_cv (d1 := 0) (k := 1079) (ci := 12) (T := TX12) (N := 153) (As := [.int x1]) (st := []) (st' := []) (xc_X12_oneString uk  e3) so_1079.is (by decide) rfl kX12_oneString lX12_466 sX12_oneString (by decide) (Nat.le_of_ble_eq_true rfl) dX12_isInbox_9 rfl ?_
    refine uu_aload_n dX12_isInbox_12 rfl (List.mem_of_getElem? (i := 0) rfl) ?_
    obtain ⟨cq4, cp4, cv4, cw4⟩ := uk.2.1 142 _ rfl
    refine uu_ldcwS cv4 dX12_isInbox_13 ?_
    obtain ⟨r5, e6, h⟩ := uu_ob h
    refine uu_cv (d1 := 5) (k := 1079) (ci := 12) (T := TX12) (N := 153) (As := [.ref cq4]) (st := []) (st' := [.int (bI r5.2)]) (xc_X12_oneIs uk cw4 e6) so_1079.is (by decide) rfl kX12_oneIs lX12_158 sX12_oneIs (by decide) (Nat.le_of_ble_eq_true rfl) dX12_isInbox_16 rfl ?_
    have hr := Option.some.inj h
    subst hr
    exact uu_zret (x := bI r5.2) rfl (bI_z _) dX12_isInbox_19
  · replace h := uu_pos c1 h
    refine uu_iconst (v := 1) dX12_isInbox_5 (by decide) ?_
    have hr := Option.some.inj h
    subst hr
    exact uu_zret (x := bI true) rfl (bI_z _) dX12_isInbox_6
abbrev mX12_sameStrings : hM := (yX12_sameStrings, cX12_sameStrings, 5, (some (.boolean)))
theorem dX12_sameStrings_24 : decode cX12_sameStrings 24 = .ok (.iload 4, 2) := by decide +kernel
theorem dX12_sameStrings_26 : decode cX12_sameStrings 26 = .ok (.aload_n 0, 1) := by decide +kernel
theorem dX12_sameStrings_27 : decode cX12_sameStrings 27 = .ok (.getfield 346, 3) := by decide +kernel
theorem dX12_sameStrings_30 : decode cX12_sameStrings 30 = .ok (.iload_n 1, 1) := by decide +kernel
theorem dX12_sameStrings_31 : decode cX12_sameStrings 31 = .ok (.iaload, 1) := by decide +kernel
theorem dX12_sameStrings_32 : decode cX12_sameStrings 32 = .ok (.if_icmp .ge 50, 3) := by decide +kernel
theorem dX12_sameStrings_82 : decode cX12_sameStrings 82 = .ok (.iload_n 3, 1) := by decide +kernel
theorem dX12_sameStrings_83 : decode cX12_sameStrings 83 = .ok (.ireturn, 1) := by decide +kernel
theorem dX12_sameStrings_35 : decode cX12_sameStrings 35 = .ok (.iload_n 3, 1) := by decide +kernel
theorem dX12_sameStrings_36 : decode cX12_sameStrings 36 = .ok (.ifCond .eq 46, 3) := by decide +kernel
theorem dX12_sameStrings_39 : decode cX12_sameStrings 39 = .ok (.aload_n 0, 1) := by decide +kernel
theorem dX12_sameStrings_40 : decode cX12_sameStrings 40 = .ok (.getfield 260, 3) := by decide +kernel
theorem dX12_sameStrings_43 : decode cX12_sameStrings 43 = .ok (.aload_n 0, 1) := by decide +kernel
theorem dX12_sameStrings_44 : decode cX12_sameStrings 44 = .ok (.getfield 343, 3) := by decide +kernel
theorem dX12_sameStrings_47 : decode cX12_sameStrings 47 = .ok (.iload_n 1, 1) := by decide +kernel
theorem dX12_sameStrings_48 : decode cX12_sameStrings 48 = .ok (.iaload, 1) := by decide +kernel
theorem dX12_sameStrings_49 : decode cX12_sameStrings 49 = .ok (.iload 4, 2) := by decide +kernel
theorem dX12_sameStrings_51 : decode cX12_sameStrings 51 = .ok (.iadd, 1) := by decide +kernel
theorem dX12_sameStrings_52 : decode cX12_sameStrings 52 = .ok (.iaload, 1) := by decide +kernel
theorem dX12_sameStrings_53 : decode cX12_sameStrings 53 = .ok (.aload_n 0, 1) := by decide +kernel
theorem dX12_sameStrings_54 : decode cX12_sameStrings 54 = .ok (.getfield 260, 3) := by decide +kernel
theorem dX12_sameStrings_57 : decode cX12_sameStrings 57 = .ok (.aload_n 0, 1) := by decide +kernel
theorem dX12_sameStrings_58 : decode cX12_sameStrings 58 = .ok (.getfield 343, 3) := by decide +kernel
theorem dX12_sameStrings_61 : decode cX12_sameStrings 61 = .ok (.iload_n 2, 1) := by decide +kernel
theorem dX12_sameStrings_62 : decode cX12_sameStrings 62 = .ok (.iaload, 1) := by decide +kernel
theorem dX12_sameStrings_63 : decode cX12_sameStrings 63 = .ok (.iload 4, 2) := by decide +kernel
theorem dX12_sameStrings_65 : decode cX12_sameStrings 65 = .ok (.iadd, 1) := by decide +kernel
theorem dX12_sameStrings_66 : decode cX12_sameStrings 66 = .ok (.iaload, 1) := by decide +kernel
theorem dX12_sameStrings_67 : decode cX12_sameStrings 67 = .ok (.if_icmp .ne 7, 3) := by decide +kernel
theorem dX12_sameStrings_74 : decode cX12_sameStrings 74 = .ok (.iconst 0, 1) := by decide +kernel
theorem dX12_sameStrings_75 : decode cX12_sameStrings 75 = .ok (.istore_n 3, 1) := by decide +kernel
theorem dX12_sameStrings_76 : decode cX12_sameStrings 76 = .ok (.iinc 4 1, 3) := by decide +kernel
theorem dX12_sameStrings_79 : decode cX12_sameStrings 79 = .ok (.goto (-55), 3) := by decide +kernel
theorem dX12_sameStrings_70 : decode cX12_sameStrings 70 = .ok (.iconst 1, 1) := by decide +kernel
theorem dX12_sameStrings_71 : decode cX12_sameStrings 71 = .ok (.goto 4, 3) := by decide +kernel
theorem dX12_sameStrings_0 : decode cX12_sameStrings 0 = .ok (.aload_n 0, 1) := by decide +kernel
theorem dX12_sameStrings_1 : decode cX12_sameStrings 1 = .ok (.getfield 346, 3) := by decide +kernel
theorem dX12_sameStrings_4 : decode cX12_sameStrings 4 = .ok (.iload_n 1, 1) := by decide +kernel
theorem dX12_sameStrings_5 : decode cX12_sameStrings 5 = .ok (.iaload, 1) := by decide +kernel
theorem dX12_sameStrings_6 : decode cX12_sameStrings 6 = .ok (.aload_n 0, 1) := by decide +kernel
theorem dX12_sameStrings_7 : decode cX12_sameStrings 7 = .ok (.getfield 346, 3) := by decide +kernel
theorem dX12_sameStrings_10 : decode cX12_sameStrings 10 = .ok (.iload_n 2, 1) := by decide +kernel
theorem dX12_sameStrings_11 : decode cX12_sameStrings 11 = .ok (.iaload, 1) := by decide +kernel
theorem dX12_sameStrings_12 : decode cX12_sameStrings 12 = .ok (.if_icmp .ne 7, 3) := by decide +kernel
theorem dX12_sameStrings_19 : decode cX12_sameStrings 19 = .ok (.iconst 0, 1) := by decide +kernel
theorem dX12_sameStrings_20 : decode cX12_sameStrings 20 = .ok (.istore_n 3, 1) := by decide +kernel
theorem dX12_sameStrings_21 : decode cX12_sameStrings 21 = .ok (.iconst 0, 1) := by decide +kernel
theorem dX12_sameStrings_22 : decode cX12_sameStrings 22 = .ok (.istore 4, 2) := by decide +kernel
theorem dX12_sameStrings_15 : decode cX12_sameStrings 15 = .ok (.iconst 1, 1) := by decide +kernel
theorem dX12_sameStrings_16 : decode cX12_sameStrings 16 = .ok (.goto 4, 3) := by decide +kernel
def fb_X12_sameStrings_24 (K24 : Int32 → Int32 → Bool → Int32 → uS → Option Bool) (x1 : Int32) (x2 : Int32) (b3 : Bool) (x4 : Int32) (s : uS) : Option Bool := (iget 20 s 1117 x1).bind fun v1 => if v1 ≤ x4 then (some b3) else (if b3 = true then ((iget 20 s 1116 x1).bind fun v5 => (iget 20 s 1097 (v5 + x4)).bind fun v7 => (iget 20 s 1116 x2).bind fun v9 => (iget 20 s 1097 (v9 + x4)).bind fun v11 => if v7 = v11 then (K24 x1 x2 true (x4 + 1) s) else (K24 x1 x2 false (x4 + 1) s)) else (some b3))
set_option maxRecDepth 100000 in
set_option maxHeartbeats 4000000 in
theorem xb_X12_sameStrings_24 {l : Launch} {D : va_G} {A : Nat → ClassId} {B : Nat} {Z : State → Heap → Prop} {vF : Value} (uk : uK B Z vF) {K24 : Int32 → Int32 → Bool → Int32 → uS → Option Bool} (hK24 : ∀ (x1 : Int32) (x2 : Int32) (b3 : Bool) (x4 : Int32)  (s : uS) (r : Bool), K24 x1 x2 b3 x4 s = some r → GU l D A B Z mX12_sameStrings 0 (s, some (.int (bI r))) s 24 [(0, .ref (B + 1079)), (1, .int x1), (2, .int x2), (3, .int (bI b3)), (4, .int x4)] []) {x1 : Int32} {x2 : Int32} {b3 : Bool} {x4 : Int32} {s : uS} {r : Bool}  (h : fb_X12_sameStrings_24 K24 x1 x2 b3 x4 s = some r) : GU l D A B Z mX12_sameStrings 0 (s, some (.int (bI r))) s 24 [(0, .ref (B + 1079)), (1, .int x1), (2, .int x2), (3, .int (bI b3)), (4, .int x4)] [] := by
  unfold fb_X12_sameStrings_24 at h
  refine uu_iload dX12_sameStrings_24 (List.mem_of_getElem? (i := 4) rfl) ?_
  refine uu_aload_n dX12_sameStrings_26 rfl (List.mem_of_getElem? (i := 0) rfl) ?_
  refine uu_geta (ci := 12) (N := 153) fX12_346 (by decide) so_1079.is (by decide) (c := 1117) (by decide) dX12_sameStrings_27 ?_
  refine uu_iload_n dX12_sameStrings_30 rfl (List.mem_of_getElem? (i := 1) rfl) ?_
  obtain ⟨v1, e2, h⟩ := uu_ob h
  refine uu_iald e2 dX12_sameStrings_31 ?_
  refine uu_icmp_ge (tgt := 82) dX12_sameStrings_32 (by decide) (fun c3 => ?_) (fun c3 => ?_)
  · replace h := uu_pos c3 h
    refine uu_iload_n dX12_sameStrings_82 rfl (List.mem_of_getElem? (i := 3) rfl) ?_
    have hr := Option.some.inj h
    subst hr
    exact uu_zret (x := bI b3) rfl (bI_z _) dX12_sameStrings_83
  · replace h := uu_neg c3 h
    refine uu_iload_n dX12_sameStrings_35 rfl (List.mem_of_getElem? (i := 3) rfl) ?_
    refine uu_ifb_eq (tgt := 82) dX12_sameStrings_36 (by decide) (fun c4 => ?_) (fun c4 => ?_)
    · replace h := uu_neg c4 h
      refine uu_iload_n dX12_sameStrings_82 rfl (List.mem_of_getElem? (i := 3) rfl) ?_
      have hr := Option.some.inj h
      subst hr
      exact uu_zret (x := bI b3) rfl (bI_z _) dX12_sameStrings_83
    · replace h := uu_pos c4 h
      refine uu_aload_n dX12_sameStrings_39 rfl (List.mem_of_getElem? (i := 0) rfl) ?_
      refine uu_geta (ci := 12) (N := 153) fX12_260 (by decide) so_1079.is (by decide) (c := 1097) (by decide) dX12_sameStrings_40 ?_
      refine uu_aload_n dX12_sameStrings_43 rfl (List.mem_of_getElem? (i := 0) rfl) ?_
      refine uu_geta (ci := 12) (N := 153) fX12_343 (by decide) so_1079.is (by decide) (c := 1116) (by decide) dX12_sameStrings_44 ?_
      refine uu_iload_n dX12_sameStrings_47 rfl (List.mem_of_getElem? (i := 1) rfl) ?_
      obtain ⟨v5, e6, h⟩ := uu_ob h
      refine uu_iald e6 dX12_sameStrings_48 ?_
      refine uu_iload dX12_sameStrings_49 (List.mem_of_getElem? (i := 4) rfl) ?_
      refine uu_iadd dX12_sameStrings_51 ?_
      obtain ⟨v7, e8, h⟩ := uu_ob h
      refine uu_iald e8 dX12_sameStrings_52 ?_
      refine uu_aload_n dX12_sameStrings_53 rfl (List.mem_of_getElem? (i := 0) rfl) ?_
      refine uu_geta (ci := 12) (N := 153) fX12_260 (by decide) so_1079.is (by decide) (c := 1097) (by decide) dX12_sameStrings_54 ?_
      refine uu_aload_n dX12_sameStrings_57 rfl (List.mem_of_getElem? (i := 0) rfl) ?_
      refine uu_geta (ci := 12) (N := 153) fX12_343 (by decide) so_1079.is (by decide) (c := 1116) (by decide) dX12_sameStrings_58 ?_
      refine uu_iload_n dX12_sameStrings_61 rfl (List.mem_of_getElem? (i := 2) rfl) ?_
      obtain ⟨v9, e10, h⟩ := uu_ob h
      refine uu_iald e10 dX12_sameStrings_62 ?_
      refine uu_iload dX12_sameStrings_63 (List.mem_of_getElem? (i := 4) rfl) ?_
      refine uu_iadd dX12_sameStrings_65 ?_
      obtain ⟨v11, e12, h⟩ := uu_ob h
      refine uu_iald e12 dX12_sameStrings_66 ?_
      refine uu_icmp_ne (tgt := 74) dX12_sameStrings_67 (by decide) (fun c13 => ?_) (fun c13 => ?_)
      · replace h := uu_neg c13 h
        refine uu_iconst (v := 0) dX12_sameStrings_74 (by decide) ?_
        refine uu_istore_n dX12_sameStrings_75 rfl (by decide) rfl ?_
        refine uu_iinc (v := x4 + 1) dX12_sameStrings_76 (k := 4) rfl rfl (by decide) rfl ?_
        refine uu_goto (tgt := 24) dX12_sameStrings_79 (by decide) ?_
        refine uu_lv [2, 3, 4, 1, 0] (lv' := [(0, .ref (B + 1079)), (1, .int x1), (2, .int x2), (3, .int 0), (4, .int (x4 + 1))]) rfl ?_
        exact hK24 x1 x2 false (x4 + 1) _ _ h
      · replace h := uu_pos c13 h
        refine uu_iconst (v := 1) dX12_sameStrings_70 (by decide) ?_
        refine uu_goto (tgt := 75) dX12_sameStrings_71 (by decide) ?_
        refine uu_istore_n dX12_sameStrings_75 rfl (by decide) rfl ?_
        refine uu_iinc (v := x4 + 1) dX12_sameStrings_76 (k := 4) rfl rfl (by decide) rfl ?_
        refine uu_goto (tgt := 24) dX12_sameStrings_79 (by decide) ?_
        refine uu_lv [2, 3, 4, 1, 0] (lv' := [(0, .ref (B + 1079)), (1, .int x1), (2, .int x2), (3, .int 1), (4, .int (x4 + 1))]) rfl ?_
        exact hK24 x1 x2 true (x4 + 1) _ _ h
def fn_X12_sameStrings_24  : Nat → Int32 → Int32 → Bool → Int32 → uS → Option Bool
  | 0 => fun _ _ _ _ _ => none
  | n + 1 => fb_X12_sameStrings_24 (fn_X12_sameStrings_24  n)
set_option maxRecDepth 100000 in
set_option maxHeartbeats 4000000 in
theorem xn_X12_sameStrings_24 {l : Launch} {D : va_G} {A : Nat → ClassId} {B : Nat} {Z : State → Heap → Prop} {vF : Value} (uk : uK B Z vF)   : ∀ (n : Nat) (x1 : Int32) (x2 : Int32) (b3 : Bool) (x4 : Int32)  (s : uS) (r : Bool), fn_X12_sameStrings_24  n x1 x2 b3 x4 s = some r → GU l D A B Z mX12_sameStrings 0 (s, some (.int (bI r))) s 24 [(0, .ref (B + 1079)), (1, .int x1), (2, .int x2), (3, .int (bI b3)), (4, .int x4)] [] := by
  intro n
  induction n with
  | zero => intro x1 x2 b3 x4 s r h
            cases h
  | succ n ih => intro x1 x2 b3 x4 s r h
                 exact xb_X12_sameStrings_24 uk ih  h
def fn_X12_sameStrings (x1 : Int32) (x2 : Int32) (s : uS) : Option Bool := (iget 20 s 1117 x1).bind fun v1 => (iget 20 s 1117 x2).bind fun v3 => if v1 = v3 then (fn_X12_sameStrings_24 uFu x1 x2 true 0 s) else (fn_X12_sameStrings_24 uFu x1 x2 false 0 s)
set_option maxRecDepth 100000 in
set_option maxHeartbeats 4000000 in
theorem xc_X12_sameStrings {l : Launch} {D : va_G} {A : Nat → ClassId} {B : Nat} {Z : State → Heap → Prop} {vF : Value} (uk : uK B Z vF) {x1 : Int32} {x2 : Int32} {s : uS} {r : Bool}  (h : fn_X12_sameStrings x1 x2 s = some r) : CU l D A B Z 0 mX12_sameStrings s [.ref (B + 1079), .int x1, .int x2] (s, some (.int (bI r))) := by
  unfold fn_X12_sameStrings at h
  refine cu_of rfl uk.1.1 (Nat.le_of_ble_eq_true rfl) ?_
  show GU _ _ _ _ _ _ _ _ _ 0 [(0, .ref (B + 1079)), (1, .int x1), (2, .int x2)] []
  refine uu_aload_n dX12_sameStrings_0 rfl (List.mem_of_getElem? (i := 0) rfl) ?_
  refine uu_geta (ci := 12) (N := 153) fX12_346 (by decide) so_1079.is (by decide) (c := 1117) (by decide) dX12_sameStrings_1 ?_
  refine uu_iload_n dX12_sameStrings_4 rfl (List.mem_of_getElem? (i := 1) rfl) ?_
  obtain ⟨v1, e2, h⟩ := uu_ob h
  refine uu_iald e2 dX12_sameStrings_5 ?_
  refine uu_aload_n dX12_sameStrings_6 rfl (List.mem_of_getElem? (i := 0) rfl) ?_
  refine uu_geta (ci := 12) (N := 153) fX12_346 (by decide) so_1079.is (by decide) (c := 1117) (by decide) dX12_sameStrings_7 ?_
  refine uu_iload_n dX12_sameStrings_10 rfl (List.mem_of_getElem? (i := 2) rfl) ?_
  obtain ⟨v3, e4, h⟩ := uu_ob h
  refine uu_iald e4 dX12_sameStrings_11 ?_
  refine uu_icmp_ne (tgt := 19) dX12_sameStrings_12 (by decide) (fun c5 => ?_) (fun c5 => ?_)
  · replace h := uu_neg c5 h
    refine uu_iconst (v := 0) dX12_sameStrings_19 (by decide) ?_
    refine uu_istore_n dX12_sameStrings_20 rfl (by decide) rfl ?_
    refine uu_iconst (v := 0) dX12_sameStrings_21 (by decide) ?_
    refine uu_istore dX12_sameStrings_22 (by decide) rfl ?_
    refine uu_lv [2, 3, 4, 1, 0] (lv' := [(0, .ref (B + 1079)), (1, .int x1), (2, .int x2), (3, .int 0), (4, .int 0)]) rfl ?_
    exact xn_X12_sameStrings_24 uk  _ _ _ _ _ _ _ h
  · replace h := uu_pos c5 h
    refine uu_iconst (v := 1) dX12_sameStrings_15 (by decide) ?_
    refine uu_goto (tgt := 20) dX12_sameStrings_16 (by decide) ?_
    refine uu_istore_n dX12_sameStrings_20 rfl (by decide) rfl ?_
    refine uu_iconst (v := 0) dX12_sameStrings_21 (by decide) ?_
    refine uu_istore dX12_sameStrings_22 (by decide) rfl ?_
    refine uu_lv [2, 3, 4, 1, 0] (lv' := [(0, .ref (B + 1079)), (1, .int x1), (2, .int x2), (3, .int 1), (4, .int 0)]) rfl ?_
    exact xn_X12_sameStrings_24 uk  _ _ _ _ _ _ _ h
abbrev mX12_sameBox : hM := (yX12_sameBox, cX12_sameBox, 5, (some (.boolean)))
theorem dX12_sameBox_22 : decode cX12_sameBox 22 = .ok (.iload_n 3, 1) := by decide +kernel
theorem dX12_sameBox_23 : decode cX12_sameBox 23 = .ok (.ifCond .eq 12, 3) := by decide +kernel
theorem dX12_sameBox_35 : decode cX12_sameBox 35 = .ok (.iconst 0, 1) := by decide +kernel
theorem dX12_sameBox_36 : decode cX12_sameBox 36 = .ok (.goto 9, 3) := by decide +kernel
theorem dX12_sameBox_45 : decode cX12_sameBox 45 = .ok (.ireturn, 1) := by decide +kernel
theorem dX12_sameBox_26 : decode cX12_sameBox 26 = .ok (.iload 4, 2) := by decide +kernel
theorem dX12_sameBox_28 : decode cX12_sameBox 28 = .ok (.ifCond .eq 7, 3) := by decide +kernel
theorem dX12_sameBox_31 : decode cX12_sameBox 31 = .ok (.iconst 1, 1) := by decide +kernel
theorem dX12_sameBox_32 : decode cX12_sameBox 32 = .ok (.goto 13, 3) := by decide +kernel
theorem dX12_sameBox_0 : decode cX12_sameBox 0 = .ok (.aload_n 0, 1) := by decide +kernel
theorem dX12_sameBox_1 : decode cX12_sameBox 1 = .ok (.iload_n 1, 1) := by decide +kernel
theorem kX12_isInbox : h_ml mX12_isInbox 1 := ⟨h_t10 6 rfl rfl, h_t1 16 rfl rfl, ⟨by decide, by decide, by decide +kernel⟩, by decide⟩
theorem lX12_769 : Cond.methodLink RX12 769 mX12_isInbox.1 ∈ lw_g := h_t10 3 rfl rfl
theorem sX12_isInbox : Cond.instanceMethod mX12_isInbox.1 ∈ lw_g ∧ Cond.selects mX12_isInbox.1.cls mX12_isInbox.1 mX12_isInbox.1 ∈ lw_g := ⟨h_t10 5 rfl rfl, h_ins 199 rfl⟩
theorem dX12_sameBox_2 : decode cX12_sameBox 2 = .ok (.invokevirtual 769, 3) := by decide +kernel
theorem dX12_sameBox_5 : decode cX12_sameBox 5 = .ok (.istore_n 3, 1) := by decide +kernel
theorem dX12_sameBox_6 : decode cX12_sameBox 6 = .ok (.aload_n 0, 1) := by decide +kernel
theorem dX12_sameBox_7 : decode cX12_sameBox 7 = .ok (.iload_n 2, 1) := by decide +kernel
theorem dX12_sameBox_8 : decode cX12_sameBox 8 = .ok (.invokevirtual 769, 3) := by decide +kernel
theorem dX12_sameBox_11 : decode cX12_sameBox 11 = .ok (.istore 4, 2) := by decide +kernel
theorem dX12_sameBox_13 : decode cX12_sameBox 13 = .ok (.iload_n 3, 1) := by decide +kernel
theorem dX12_sameBox_14 : decode cX12_sameBox 14 = .ok (.ifCond .ne 8, 3) := by decide +kernel
theorem dX12_sameBox_17 : decode cX12_sameBox 17 = .ok (.iload 4, 2) := by decide +kernel
theorem dX12_sameBox_19 : decode cX12_sameBox 19 = .ok (.ifCond .eq 20, 3) := by decide +kernel
theorem dX12_sameBox_39 : decode cX12_sameBox 39 = .ok (.aload_n 0, 1) := by decide +kernel
theorem dX12_sameBox_40 : decode cX12_sameBox 40 = .ok (.iload_n 1, 1) := by decide +kernel
theorem dX12_sameBox_41 : decode cX12_sameBox 41 = .ok (.iload_n 2, 1) := by decide +kernel
theorem kX12_sameStrings : h_ml mX12_sameStrings 2 := ⟨h_t10 11 rfl rfl, h_t1 16 rfl rfl, ⟨by decide, by decide, by decide +kernel⟩, by decide⟩
theorem lX12_772 : Cond.methodLink RX12 772 mX12_sameStrings.1 ∈ lw_g := h_t10 8 rfl rfl
theorem sX12_sameStrings : Cond.instanceMethod mX12_sameStrings.1 ∈ lw_g ∧ Cond.selects mX12_sameStrings.1.cls mX12_sameStrings.1 mX12_sameStrings.1 ∈ lw_g := ⟨h_t10 10 rfl rfl, h_ins 200 rfl⟩
theorem dX12_sameBox_42 : decode cX12_sameBox 42 = .ok (.invokevirtual 772, 3) := by decide +kernel
def fb_X12_sameBox_22  (b3 : Bool) (b4 : Bool) (s : uS) : Option (uS × Bool) := if b3 = true then (if b4 = true then (some (s, true)) else (some (s, false))) else (some (s, false))
set_option maxRecDepth 100000 in
set_option maxHeartbeats 4000000 in
theorem xb_X12_sameBox_22 {l : Launch} {D : va_G} {A : Nat → ClassId} {B : Nat} {Z : State → Heap → Prop} {vF : Value} (uk : uK B Z vF)   {b3 : Bool} {b4 : Bool} {s : uS} {r : (uS × Bool)}  (h : fb_X12_sameBox_22  b3 b4 s = some r) : GU l D A B Z mX12_sameBox 7 (r.1, some (.int (bI r.2))) s 22 [(3, .int (bI b3)), (4, .int (bI b4))] [] := by
  unfold fb_X12_sameBox_22 at h
  refine uu_iload_n dX12_sameBox_22 rfl (List.mem_of_getElem? (i := 0) rfl) ?_
  refine uu_ifb_eq (tgt := 35) dX12_sameBox_23 (by decide) (fun c1 => ?_) (fun c1 => ?_)
  · replace h := uu_neg c1 h
    refine uu_iconst (v := 0) dX12_sameBox_35 (by decide) ?_
    refine uu_goto (tgt := 45) dX12_sameBox_36 (by decide) ?_
    have hr := Option.some.inj h
    subst hr
    exact uu_zret (x := bI false) rfl (bI_z _) dX12_sameBox_45
  · replace h := uu_pos c1 h
    refine uu_iload dX12_sameBox_26 (List.mem_of_getElem? (i := 1) rfl) ?_
    refine uu_ifb_eq (tgt := 35) dX12_sameBox_28 (by decide) (fun c2 => ?_) (fun c2 => ?_)
    · replace h := uu_neg c2 h
      refine uu_iconst (v := 0) dX12_sameBox_35 (by decide) ?_
      refine uu_goto (tgt := 45) dX12_sameBox_36 (by decide) ?_
      have hr := Option.some.inj h
      subst hr
      exact uu_zret (x := bI false) rfl (bI_z _) dX12_sameBox_45
    · replace h := uu_pos c2 h
      refine uu_iconst (v := 1) dX12_sameBox_31 (by decide) ?_
      refine uu_goto (tgt := 45) dX12_sameBox_32 (by decide) ?_
      have hr := Option.some.inj h
      subst hr
      exact uu_zret (x := bI true) rfl (bI_z _) dX12_sameBox_45
def fn_X12_sameBox (x1 : Int32) (x2 : Int32) (s : uS) : Option (uS × Bool) := (fn_X12_isInbox x1 s).bind fun r1 => (fn_X12_isInbox x2 r1.1).bind fun r3 => if r1.2 = true then (fb_X12_sameBox_22 r1.2 r3.2 r3.1) else (if r3.2 = true then (fb_X12_sameBox_22 r1.2 r3.2 r3.1) else ((fn_X12_sameStrings x1 x2 r3.1).bind fun v7 => some (r3.1, v7)))
set_option maxRecDepth 100000 in
set_option maxHeartbeats 4000000 in
theorem xc_X12_sameBox {l : Launch} {D : va_G} {A : Nat → ClassId} {B : Nat} {Z : State → Heap → Prop} {vF : Value} (uk : uK B Z vF) {x1 : Int32} {x2 : Int32} {s : uS} {r : (uS × Bool)}  (h : fn_X12_sameBox x1 x2 s = some r) : CU l D A B Z 7 mX12_sameBox s [.ref (B + 1079), .int x1, .int x2] (r.1, some (.int (bI r.2))) := by
  unfold fn_X12_sameBox at h
  refine cu_of rfl uk.1.1 (Nat.le_of_ble_eq_true rfl) ?_
  show GU _ _ _ _ _ _ _ _ _ 0 [(0, .ref (B + 1079)), (1, .int x1), (2, .int x2)] []
  refine uu_aload_n dX12_sameBox_0 rfl (List.mem_of_getElem? (i := 0) rfl) ?_
  refine uu_iload_n dX12_sameBox_1 rfl (List.mem_of_getElem? (i := 1) rfl) ?_
  obtain ⟨r1, e2, h⟩ := uu_ob h
  refine uu_cv (d1 := 6) (k := 1079) (ci := 12) (T := TX12) (N := 153) (As := [.int x1]) (st := []) (st' := [.int (bI r1.2)]) (xc_X12_isInbox uk  e2) so_1079.is (by decide) rfl kX12_isInbox lX12_769 sX12_isInbox (by decide) (Nat.le_of_ble_eq_true rfl) dX12_sameBox_2 rfl ?_
  refine uu_istore_n dX12_sameBox_5 rfl (by decide) rfl ?_
  refine uu_aload_n dX12_sameBox_6 rfl (List.mem_of_getElem? (i := 1) rfl) ?_
  refine uu_iload_n dX12_sameBox_7 rfl (List.mem_of_getElem? (i := 3) rfl) ?_
  obtain ⟨r3, e4, h⟩ := uu_ob h
  refine uu_cv (d1 := 6) (k := 1079) (ci := 12) (T := TX12) (N := 153) (As := [.int x2]) (st := []) (st' := [.int (bI r3.2)]) (xc_X12_isInbox uk  e4) so_1079.is (by decide) rfl kX12_isInbox lX12_769 sX12_isInbox (by decide) (Nat.le_of_ble_eq_true rfl) dX12_sameBox_8 rfl ?_
  refine uu_istore dX12_sameBox_11 (by decide) rfl ?_
  refine uu_iload_n dX12_sameBox_13 rfl (List.mem_of_getElem? (i := 1) rfl) ?_
  refine uu_ifb_ne (tgt := 22) dX12_sameBox_14 (by decide) (fun c5 => ?_) (fun c5 => ?_)
  · replace h := uu_pos c5 h
    refine uu_lv [1, 0] (lv' := [(3, .int (bI r1.2)), (4, .int (bI r3.2))]) rfl ?_
    exact xb_X12_sameBox_22 uk  h
  · replace h := uu_neg c5 h
    refine uu_iload dX12_sameBox_17 (List.mem_of_getElem? (i := 0) rfl) ?_
    refine uu_ifb_eq (tgt := 39) dX12_sameBox_19 (by decide) (fun c6 => ?_) (fun c6 => ?_)
    · replace h := uu_neg c6 h
      refine uu_aload_n dX12_sameBox_39 rfl (List.mem_of_getElem? (i := 2) rfl) ?_
      refine uu_iload_n dX12_sameBox_40 rfl (List.mem_of_getElem? (i := 3) rfl) ?_
      refine uu_iload_n dX12_sameBox_41 rfl (List.mem_of_getElem? (i := 4) rfl) ?_
      obtain ⟨v7, e8, h⟩ := uu_ob h
      refine uu_cv (d1 := 0) (k := 1079) (ci := 12) (T := TX12) (N := 153) (As := [.int x1, .int x2]) (st := []) (st' := [.int (bI v7)]) (xc_X12_sameStrings uk  e8) so_1079.is (by decide) rfl kX12_sameStrings lX12_772 sX12_sameStrings (by decide) (Nat.le_of_ble_eq_true rfl) dX12_sameBox_42 rfl ?_
      have hr := Option.some.inj h
      subst hr
      exact uu_zret (x := bI v7) rfl (bI_z _) dX12_sameBox_45
    · replace h := uu_pos c6 h
      refine uu_lv [1, 0] (lv' := [(3, .int (bI r1.2)), (4, .int (bI r3.2))]) rfl ?_
      exact xb_X12_sameBox_22 uk  h
abbrev mX12_file1 : hM := (yX12_file1, cX12_file1, 5, none)
theorem dX12_file1_5 : decode cX12_file1 5 = .ok (.iload 4, 2) := by decide +kernel
theorem dX12_file1_7 : decode cX12_file1 7 = .ok (.aload_n 0, 1) := by decide +kernel
theorem fX12_775 : h_fl RX12 775 12 97 RX12 TX12 153 := ⟨rfl, by decide, inX12, h_t12 58 rfl rfl⟩
theorem dX12_file1_8 : decode cX12_file1 8 = .ok (.getfield 775, 3) := by decide +kernel
theorem dX12_file1_11 : decode cX12_file1 11 = .ok (.if_icmp .ge 34, 3) := by decide +kernel
theorem dX12_file1_45 : decode cX12_file1 45 = .ok (.iload_n 3, 1) := by decide +kernel
theorem dX12_file1_46 : decode cX12_file1 46 = .ok (.ifCond .eq 4, 3) := by decide +kernel
theorem dX12_file1_50 : decode cX12_file1 50 = .ok (.aload_n 0, 1) := by decide +kernel
theorem dX12_file1_51 : decode cX12_file1 51 = .ok (.getfield 778, 3) := by decide +kernel
theorem dX12_file1_54 : decode cX12_file1 54 = .ok (.aload_n 0, 1) := by decide +kernel
theorem dX12_file1_55 : decode cX12_file1 55 = .ok (.getfield 775, 3) := by decide +kernel
theorem dX12_file1_58 : decode cX12_file1 58 = .ok (.iload_n 1, 1) := by decide +kernel
theorem dX12_file1_59 : decode cX12_file1 59 = .ok (.iastore, 1) := by decide +kernel
theorem dX12_file1_60 : decode cX12_file1 60 = .ok (.aload_n 0, 1) := by decide +kernel
theorem dX12_file1_61 : decode cX12_file1 61 = .ok (.getfield 784, 3) := by decide +kernel
theorem dX12_file1_64 : decode cX12_file1 64 = .ok (.aload_n 0, 1) := by decide +kernel
theorem dX12_file1_65 : decode cX12_file1 65 = .ok (.getfield 775, 3) := by decide +kernel
theorem dX12_file1_68 : decode cX12_file1 68 = .ok (.iload_n 2, 1) := by decide +kernel
theorem dX12_file1_69 : decode cX12_file1 69 = .ok (.iastore, 1) := by decide +kernel
theorem dX12_file1_70 : decode cX12_file1 70 = .ok (.aload_n 0, 1) := by decide +kernel
theorem dX12_file1_71 : decode cX12_file1 71 = .ok (.aload_n 0, 1) := by decide +kernel
theorem dX12_file1_72 : decode cX12_file1 72 = .ok (.getfield 775, 3) := by decide +kernel
theorem dX12_file1_75 : decode cX12_file1 75 = .ok (.iconst 1, 1) := by decide +kernel
theorem dX12_file1_76 : decode cX12_file1 76 = .ok (.iadd, 1) := by decide +kernel
theorem dX12_file1_77 : decode cX12_file1 77 = .ok (.putfield 775, 3) := by decide +kernel
theorem dX12_file1_80 : decode cX12_file1 80 = .ok (.return_, 1) := by decide +kernel
theorem dX12_file1_49 : decode cX12_file1 49 = .ok (.return_, 1) := by decide +kernel
theorem dX12_file1_14 : decode cX12_file1 14 = .ok (.iload_n 3, 1) := by decide +kernel
theorem dX12_file1_15 : decode cX12_file1 15 = .ok (.ifCond .ne 18, 3) := by decide +kernel
theorem dX12_file1_33 : decode cX12_file1 33 = .ok (.iconst 1, 1) := by decide +kernel
theorem dX12_file1_34 : decode cX12_file1 34 = .ok (.goto 4, 3) := by decide +kernel
theorem dX12_file1_38 : decode cX12_file1 38 = .ok (.istore_n 3, 1) := by decide +kernel
theorem dX12_file1_39 : decode cX12_file1 39 = .ok (.iinc 4 1, 3) := by decide +kernel
theorem dX12_file1_42 : decode cX12_file1 42 = .ok (.goto (-37), 3) := by decide +kernel
theorem dX12_file1_18 : decode cX12_file1 18 = .ok (.aload_n 0, 1) := by decide +kernel
theorem dX12_file1_19 : decode cX12_file1 19 = .ok (.iload_n 1, 1) := by decide +kernel
theorem dX12_file1_20 : decode cX12_file1 20 = .ok (.aload_n 0, 1) := by decide +kernel
theorem dX12_file1_21 : decode cX12_file1 21 = .ok (.getfield 778, 3) := by decide +kernel
theorem dX12_file1_24 : decode cX12_file1 24 = .ok (.iload 4, 2) := by decide +kernel
theorem dX12_file1_26 : decode cX12_file1 26 = .ok (.iaload, 1) := by decide +kernel
theorem kX12_sameBox : h_ml mX12_sameBox 2 := ⟨h_t10 2 rfl rfl, h_t1 16 rfl rfl, ⟨by decide, by decide, by decide +kernel⟩, by decide⟩
theorem lX12_781 : Cond.methodLink RX12 781 mX12_sameBox.1 ∈ lw_g := h_t9 239 rfl rfl
theorem sX12_sameBox : Cond.instanceMethod mX12_sameBox.1 ∈ lw_g ∧ Cond.selects mX12_sameBox.1.cls mX12_sameBox.1 mX12_sameBox.1 ∈ lw_g := ⟨h_t10 1 rfl rfl, h_ins 198 rfl⟩
theorem dX12_file1_27 : decode cX12_file1 27 = .ok (.invokevirtual 781, 3) := by decide +kernel
theorem dX12_file1_30 : decode cX12_file1 30 = .ok (.ifCond .eq 7, 3) := by decide +kernel
theorem dX12_file1_37 : decode cX12_file1 37 = .ok (.iconst 0, 1) := by decide +kernel
theorem dX12_file1_0 : decode cX12_file1 0 = .ok (.iconst 0, 1) := by decide +kernel
theorem dX12_file1_1 : decode cX12_file1 1 = .ok (.istore_n 3, 1) := by decide +kernel
theorem dX12_file1_2 : decode cX12_file1 2 = .ok (.iconst 0, 1) := by decide +kernel
theorem dX12_file1_3 : decode cX12_file1 3 = .ok (.istore 4, 2) := by decide +kernel
def fb_X12_file1_5 (K5 : Int32 → Int32 → Bool → Int32 → uS → Option uS) (x1 : Int32) (x2 : Int32) (b3 : Bool) (x4 : Int32) (s : uS) : Option uS := if (s.I 1079 97) ≤ x4 then (if b3 = true then (some s) else ((iput 20 s 1138 (s.I 1079 97) x1).bind fun s3 => (iput 20 s3 1139 (s3.I 1079 97) x2).bind fun s5 => some (wI s5 1079 97 ((s5.I 1079 97) + 1)))) else (if b3 = true then (K5 x1 x2 true (x4 + 1) s) else ((iget 20 s 1138 x4).bind fun v8 => (fn_X12_sameBox x1 v8 s).bind fun r10 => if r10.2 = true then (K5 x1 x2 true (x4 + 1) r10.1) else (K5 x1 x2 false (x4 + 1) r10.1)))
set_option maxRecDepth 100000 in
set_option maxHeartbeats 4000000 in
theorem xb_X12_file1_5 {l : Launch} {D : va_G} {A : Nat → ClassId} {B : Nat} {Z : State → Heap → Prop} {vF : Value} (uk : uK B Z vF) {K5 : Int32 → Int32 → Bool → Int32 → uS → Option uS} (hK5 : ∀ (x1 : Int32) (x2 : Int32) (b3 : Bool) (x4 : Int32)  (s : uS) (r : uS), K5 x1 x2 b3 x4 s = some r → GU l D A B Z mX12_file1 8 (r, none) s 5 [(0, .ref (B + 1079)), (1, .int x1), (2, .int x2), (3, .int (bI b3)), (4, .int x4)] []) {x1 : Int32} {x2 : Int32} {b3 : Bool} {x4 : Int32} {s : uS} {r : uS}  (h : fb_X12_file1_5 K5 x1 x2 b3 x4 s = some r) : GU l D A B Z mX12_file1 8 (r, none) s 5 [(0, .ref (B + 1079)), (1, .int x1), (2, .int x2), (3, .int (bI b3)), (4, .int x4)] [] := by
  unfold fb_X12_file1_5 at h
  refine uu_iload dX12_file1_5 (List.mem_of_getElem? (i := 4) rfl) ?_
  refine uu_aload_n dX12_file1_7 rfl (List.mem_of_getElem? (i := 0) rfl) ?_
  refine uu_geti (ci := 12) (N := 153) fX12_775 (by decide) so_1079.is (by decide) (by decide) dX12_file1_8 ?_
  refine uu_icmp_ge (tgt := 45) dX12_file1_11 (by decide) (fun c1 => ?_) (fun c1 => ?_)
  · replace h := uu_pos c1 h
    refine uu_iload_n dX12_file1_45 rfl (List.mem_of_getElem? (i := 3) rfl) ?_
    refine uu_ifb_eq (tgt := 50) dX12_file1_46 (by decide) (fun c2 => ?_) (fun c2 => ?_)
    · replace h := uu_neg c2 h
      refine uu_aload_n dX12_file1_50 rfl (List.mem_of_getElem? (i := 0) rfl) ?_
      refine uu_geta (ci := 12) (N := 153) fX12_778 (by decide) so_1079.is (by decide) (c := 1138) (by decide) dX12_file1_51 ?_
      refine uu_aload_n dX12_file1_54 rfl (List.mem_of_getElem? (i := 0) rfl) ?_
      refine uu_geti (ci := 12) (N := 153) fX12_775 (by decide) so_1079.is (by decide) (by decide) dX12_file1_55 ?_
      refine uu_iload_n dX12_file1_58 rfl (List.mem_of_getElem? (i := 1) rfl) ?_
      obtain ⟨s3, e4, h⟩ := uu_ob h
      refine uu_iast e4 dX12_file1_59 ?_
      refine uu_aload_n dX12_file1_60 rfl (List.mem_of_getElem? (i := 0) rfl) ?_
      refine uu_geta (ci := 12) (N := 153) fX12_784 (by decide) so_1079.is (by decide) (c := 1139) (by decide) dX12_file1_61 ?_
      refine uu_aload_n dX12_file1_64 rfl (List.mem_of_getElem? (i := 0) rfl) ?_
      refine uu_geti (ci := 12) (N := 153) fX12_775 (by decide) so_1079.is (by decide) (by decide) dX12_file1_65 ?_
      refine uu_iload_n dX12_file1_68 rfl (List.mem_of_getElem? (i := 2) rfl) ?_
      obtain ⟨s5, e6, h⟩ := uu_ob h
      refine uu_iast e6 dX12_file1_69 ?_
      refine uu_aload_n dX12_file1_70 rfl (List.mem_of_getElem? (i := 0) rfl) ?_
      refine uu_aload_n dX12_file1_71 rfl (List.mem_of_getElem? (i := 0) rfl) ?_
      refine uu_geti (ci := 12) (N := 153) fX12_775 (by decide) so_1079.is (by decide) (by decide) dX12_file1_72 ?_
      refine uu_iconst (v := 1) dX12_file1_75 (by decide) ?_
      refine uu_iadd dX12_file1_76 ?_
      refine uu_puti (ft := .int) (ci := 12) (N := 153) fX12_775 ptX12 (Or.inl rfl) (by decide) so_1079.is (by decide) (by decide) (by decide +kernel) rfl rfl dX12_file1_77 ?_
      have hr := Option.some.inj h
      subst hr
      exact uu_vret rfl dX12_file1_80
    · replace h := uu_pos c2 h
      have hr := Option.some.inj h
      subst hr
      exact uu_vret rfl dX12_file1_49
  · replace h := uu_neg c1 h
    refine uu_iload_n dX12_file1_14 rfl (List.mem_of_getElem? (i := 3) rfl) ?_
    refine uu_ifb_ne (tgt := 33) dX12_file1_15 (by decide) (fun c7 => ?_) (fun c7 => ?_)
    · replace h := uu_pos c7 h
      refine uu_iconst (v := 1) dX12_file1_33 (by decide) ?_
      refine uu_goto (tgt := 38) dX12_file1_34 (by decide) ?_
      refine uu_istore_n dX12_file1_38 rfl (by decide) rfl ?_
      refine uu_iinc (v := x4 + 1) dX12_file1_39 (k := 4) rfl rfl (by decide) rfl ?_
      refine uu_goto (tgt := 5) dX12_file1_42 (by decide) ?_
      refine uu_lv [2, 3, 4, 1, 0] (lv' := [(0, .ref (B + 1079)), (1, .int x1), (2, .int x2), (3, .int 1), (4, .int (x4 + 1))]) rfl ?_
      exact hK5 x1 x2 true (x4 + 1) _ _ h
    · replace h := uu_neg c7 h
      refine uu_aload_n dX12_file1_18 rfl (List.mem_of_getElem? (i := 0) rfl) ?_
      refine uu_iload_n dX12_file1_19 rfl (List.mem_of_getElem? (i := 1) rfl) ?_
      refine uu_aload_n dX12_file1_20 rfl (List.mem_of_getElem? (i := 0) rfl) ?_
      refine uu_geta (ci := 12) (N := 153) fX12_778 (by decide) so_1079.is (by decide) (c := 1138) (by decide) dX12_file1_21 ?_
      refine uu_iload dX12_file1_24 (List.mem_of_getElem? (i := 4) rfl) ?_
      obtain ⟨v8, e9, h⟩ := uu_ob h
      refine uu_iald e9 dX12_file1_26 ?_
      obtain ⟨r10, e11, h⟩ := uu_ob h
      refine uu_cv (d1 := 7) (k := 1079) (ci := 12) (T := TX12) (N := 153) (As := [.int x1, .int v8]) (st := []) (st' := [.int (bI r10.2)]) (xc_X12_sameBox uk  e11) so_1079.is (by decide) rfl kX12_sameBox lX12_781 sX12_sameBox (by decide) (Nat.le_of_ble_eq_true rfl) dX12_file1_27 rfl ?_
      refine uu_ifb_eq (tgt := 37) dX12_file1_30 (by decide) (fun c12 => ?_) (fun c12 => ?_)
      · replace h := uu_neg c12 h
        refine uu_iconst (v := 0) dX12_file1_37 (by decide) ?_
        refine uu_istore_n dX12_file1_38 rfl (by decide) rfl ?_
        refine uu_iinc (v := x4 + 1) dX12_file1_39 (k := 4) rfl rfl (by decide) rfl ?_
        refine uu_goto (tgt := 5) dX12_file1_42 (by decide) ?_
        refine uu_lv [2, 3, 4, 1, 0] (lv' := [(0, .ref (B + 1079)), (1, .int x1), (2, .int x2), (3, .int 0), (4, .int (x4 + 1))]) rfl ?_
        exact hK5 x1 x2 false (x4 + 1) _ _ h
      · replace h := uu_pos c12 h
        refine uu_iconst (v := 1) dX12_file1_33 (by decide) ?_
        refine uu_goto (tgt := 38) dX12_file1_34 (by decide) ?_
        refine uu_istore_n dX12_file1_38 rfl (by decide) rfl ?_
        refine uu_iinc (v := x4 + 1) dX12_file1_39 (k := 4) rfl rfl (by decide) rfl ?_
        refine uu_goto (tgt := 5) dX12_file1_42 (by decide) ?_
        refine uu_lv [2, 3, 4, 1, 0] (lv' := [(0, .ref (B + 1079)), (1, .int x1), (2, .int x2), (3, .int 1), (4, .int (x4 + 1))]) rfl ?_
        exact hK5 x1 x2 true (x4 + 1) _ _ h
def fn_X12_file1_5  : Nat → Int32 → Int32 → Bool → Int32 → uS → Option uS
  | 0 => fun _ _ _ _ _ => none
  | n + 1 => fb_X12_file1_5 (fn_X12_file1_5  n)
set_option maxRecDepth 100000 in
set_option maxHeartbeats 4000000 in
theorem xn_X12_file1_5 {l : Launch} {D : va_G} {A : Nat → ClassId} {B : Nat} {Z : State → Heap → Prop} {vF : Value} (uk : uK B Z vF)   : ∀ (n : Nat) (x1 : Int32) (x2 : Int32) (b3 : Bool) (x4 : Int32)  (s : uS) (r : uS), fn_X12_file1_5  n x1 x2 b3 x4 s = some r → GU l D A B Z mX12_file1 8 (r, none) s 5 [(0, .ref (B + 1079)), (1, .int x1), (2, .int x2), (3, .int (bI b3)), (4, .int x4)] [] := by
  intro n
  induction n with
  | zero => intro x1 x2 b3 x4 s r h
            cases h
  | succ n ih => intro x1 x2 b3 x4 s r h
                 exact xb_X12_file1_5 uk ih  h
def fn_X12_file1 (x1 : Int32) (x2 : Int32) (s : uS) : Option uS := fn_X12_file1_5 uFu x1 x2 false 0 s
set_option maxRecDepth 100000 in
set_option maxHeartbeats 4000000 in
theorem xc_X12_file1 {l : Launch} {D : va_G} {A : Nat → ClassId} {B : Nat} {Z : State → Heap → Prop} {vF : Value} (uk : uK B Z vF) {x1 : Int32} {x2 : Int32} {s : uS} {r : uS}  (h : fn_X12_file1 x1 x2 s = some r) : CU l D A B Z 8 mX12_file1 s [.ref (B + 1079), .int x1, .int x2] (r, none) := by
  unfold fn_X12_file1 at h
  refine cu_of rfl uk.1.1 (Nat.le_of_ble_eq_true rfl) ?_
  show GU _ _ _ _ _ _ _ _ _ 0 [(0, .ref (B + 1079)), (1, .int x1), (2, .int x2)] []
  refine uu_iconst (v := 0) dX12_file1_0 (by decide) ?_
  refine uu_istore_n dX12_file1_1 rfl (by decide) rfl ?_
  refine uu_iconst (v := 0) dX12_file1_2 (by decide) ?_
  refine uu_istore dX12_file1_3 (by decide) rfl ?_
  refine uu_lv [2, 3, 4, 1, 0] (lv' := [(0, .ref (B + 1079)), (1, .int x1), (2, .int x2), (3, .int 0), (4, .int 0)]) rfl ?_
  exact xn_X12_file1_5 uk  _ _ _ _ _ _ _ h
abbrev mX12_sameLow : hM := (yX12_sameLow, cX12_sameLow, 5, (some (.boolean)))
theorem dX12_sameLow_24 : decode cX12_sameLow 24 = .ok (.iload 4, 2) := by decide +kernel
theorem dX12_sameLow_26 : decode cX12_sameLow 26 = .ok (.aload_n 0, 1) := by decide +kernel
theorem dX12_sameLow_27 : decode cX12_sameLow 27 = .ok (.getfield 346, 3) := by decide +kernel
theorem dX12_sameLow_30 : decode cX12_sameLow 30 = .ok (.iload_n 1, 1) := by decide +kernel
theorem dX12_sameLow_31 : decode cX12_sameLow 31 = .ok (.iaload, 1) := by decide +kernel
theorem dX12_sameLow_32 : decode cX12_sameLow 32 = .ok (.if_icmp .ge 56, 3) := by decide +kernel
theorem dX12_sameLow_88 : decode cX12_sameLow 88 = .ok (.iload_n 3, 1) := by decide +kernel
theorem dX12_sameLow_89 : decode cX12_sameLow 89 = .ok (.ireturn, 1) := by decide +kernel
theorem dX12_sameLow_35 : decode cX12_sameLow 35 = .ok (.iload_n 3, 1) := by decide +kernel
theorem dX12_sameLow_36 : decode cX12_sameLow 36 = .ok (.ifCond .eq 52, 3) := by decide +kernel
theorem dX12_sameLow_39 : decode cX12_sameLow 39 = .ok (.aload_n 0, 1) := by decide +kernel
theorem dX12_sameLow_40 : decode cX12_sameLow 40 = .ok (.getfield 260, 3) := by decide +kernel
theorem dX12_sameLow_43 : decode cX12_sameLow 43 = .ok (.aload_n 0, 1) := by decide +kernel
theorem dX12_sameLow_44 : decode cX12_sameLow 44 = .ok (.getfield 343, 3) := by decide +kernel
theorem dX12_sameLow_47 : decode cX12_sameLow 47 = .ok (.iload_n 1, 1) := by decide +kernel
theorem dX12_sameLow_48 : decode cX12_sameLow 48 = .ok (.iaload, 1) := by decide +kernel
theorem dX12_sameLow_49 : decode cX12_sameLow 49 = .ok (.iload 4, 2) := by decide +kernel
theorem dX12_sameLow_51 : decode cX12_sameLow 51 = .ok (.iadd, 1) := by decide +kernel
theorem dX12_sameLow_52 : decode cX12_sameLow 52 = .ok (.iaload, 1) := by decide +kernel
theorem dX12_sameLow_53 : decode cX12_sameLow 53 = .ok (.invokestatic 119, 3) := by decide +kernel
theorem dX12_sameLow_56 : decode cX12_sameLow 56 = .ok (.aload_n 0, 1) := by decide +kernel
theorem dX12_sameLow_57 : decode cX12_sameLow 57 = .ok (.getfield 260, 3) := by decide +kernel
theorem dX12_sameLow_60 : decode cX12_sameLow 60 = .ok (.aload_n 0, 1) := by decide +kernel
theorem dX12_sameLow_61 : decode cX12_sameLow 61 = .ok (.getfield 343, 3) := by decide +kernel
theorem dX12_sameLow_64 : decode cX12_sameLow 64 = .ok (.iload_n 2, 1) := by decide +kernel
theorem dX12_sameLow_65 : decode cX12_sameLow 65 = .ok (.iaload, 1) := by decide +kernel
theorem dX12_sameLow_66 : decode cX12_sameLow 66 = .ok (.iload 4, 2) := by decide +kernel
theorem dX12_sameLow_68 : decode cX12_sameLow 68 = .ok (.iadd, 1) := by decide +kernel
theorem dX12_sameLow_69 : decode cX12_sameLow 69 = .ok (.iaload, 1) := by decide +kernel
theorem dX12_sameLow_70 : decode cX12_sameLow 70 = .ok (.invokestatic 119, 3) := by decide +kernel
theorem dX12_sameLow_73 : decode cX12_sameLow 73 = .ok (.if_icmp .ne 7, 3) := by decide +kernel
theorem dX12_sameLow_80 : decode cX12_sameLow 80 = .ok (.iconst 0, 1) := by decide +kernel
theorem dX12_sameLow_81 : decode cX12_sameLow 81 = .ok (.istore_n 3, 1) := by decide +kernel
theorem dX12_sameLow_82 : decode cX12_sameLow 82 = .ok (.iinc 4 1, 3) := by decide +kernel
theorem dX12_sameLow_85 : decode cX12_sameLow 85 = .ok (.goto (-61), 3) := by decide +kernel
theorem dX12_sameLow_76 : decode cX12_sameLow 76 = .ok (.iconst 1, 1) := by decide +kernel
theorem dX12_sameLow_77 : decode cX12_sameLow 77 = .ok (.goto 4, 3) := by decide +kernel
theorem dX12_sameLow_0 : decode cX12_sameLow 0 = .ok (.aload_n 0, 1) := by decide +kernel
theorem dX12_sameLow_1 : decode cX12_sameLow 1 = .ok (.getfield 346, 3) := by decide +kernel
theorem dX12_sameLow_4 : decode cX12_sameLow 4 = .ok (.iload_n 1, 1) := by decide +kernel
theorem dX12_sameLow_5 : decode cX12_sameLow 5 = .ok (.iaload, 1) := by decide +kernel
theorem dX12_sameLow_6 : decode cX12_sameLow 6 = .ok (.aload_n 0, 1) := by decide +kernel
theorem dX12_sameLow_7 : decode cX12_sameLow 7 = .ok (.getfield 346, 3) := by decide +kernel
theorem dX12_sameLow_10 : decode cX12_sameLow 10 = .ok (.iload_n 2, 1) := by decide +kernel
theorem dX12_sameLow_11 : decode cX12_sameLow 11 = .ok (.iaload, 1) := by decide +kernel
theorem dX12_sameLow_12 : decode cX12_sameLow 12 = .ok (.if_icmp .ne 7, 3) := by decide +kernel
theorem dX12_sameLow_19 : decode cX12_sameLow 19 = .ok (.iconst 0, 1) := by decide +kernel
theorem dX12_sameLow_20 : decode cX12_sameLow 20 = .ok (.istore_n 3, 1) := by decide +kernel
theorem dX12_sameLow_21 : decode cX12_sameLow 21 = .ok (.iconst 0, 1) := by decide +kernel
theorem dX12_sameLow_22 : decode cX12_sameLow 22 = .ok (.istore 4, 2) := by decide +kernel
theorem dX12_sameLow_15 : decode cX12_sameLow 15 = .ok (.iconst 1, 1) := by decide +kernel
theorem dX12_sameLow_16 : decode cX12_sameLow 16 = .ok (.goto 4, 3) := by decide +kernel
def fb_X12_sameLow_24 (K24 : Int32 → Int32 → Bool → Int32 → uS → Option Bool) (x1 : Int32) (x2 : Int32) (b3 : Bool) (x4 : Int32) (s : uS) : Option Bool := (iget 20 s 1117 x1).bind fun v1 => if v1 ≤ x4 then (some b3) else (if b3 = true then ((iget 20 s 1116 x1).bind fun v5 => (iget 20 s 1097 (v5 + x4)).bind fun v7 => (fn_X12_low v7 s).bind fun v9 => (iget 20 s 1116 x2).bind fun v11 => (iget 20 s 1097 (v11 + x4)).bind fun v13 => (fn_X12_low v13 s).bind fun v15 => if v9 = v15 then (K24 x1 x2 true (x4 + 1) s) else (K24 x1 x2 false (x4 + 1) s)) else (some b3))
set_option maxRecDepth 100000 in
set_option maxHeartbeats 4000000 in
theorem xb_X12_sameLow_24 {l : Launch} {D : va_G} {A : Nat → ClassId} {B : Nat} {Z : State → Heap → Prop} {vF : Value} (uk : uK B Z vF) {K24 : Int32 → Int32 → Bool → Int32 → uS → Option Bool} (hK24 : ∀ (x1 : Int32) (x2 : Int32) (b3 : Bool) (x4 : Int32)  (s : uS) (r : Bool), K24 x1 x2 b3 x4 s = some r → GU l D A B Z mX12_sameLow 1 (s, some (.int (bI r))) s 24 [(0, .ref (B + 1079)), (1, .int x1), (2, .int x2), (3, .int (bI b3)), (4, .int x4)] []) {x1 : Int32} {x2 : Int32} {b3 : Bool} {x4 : Int32} {s : uS} {r : Bool}  (h : fb_X12_sameLow_24 K24 x1 x2 b3 x4 s = some r) : GU l D A B Z mX12_sameLow 1 (s, some (.int (bI r))) s 24 [(0, .ref (B + 1079)), (1, .int x1), (2, .int x2), (3, .int (bI b3)), (4, .int x4)] [] := by
  unfold fb_X12_sameLow_24 at h
  refine uu_iload dX12_sameLow_24 (List.mem_of_getElem? (i := 4) rfl) ?_
  refine uu_aload_n dX12_sameLow_26 rfl (List.mem_of_getElem? (i := 0) rfl) ?_
  refine uu_geta (ci := 12) (N := 153) fX12_346 (by decide) so_1079.is (by decide) (c := 1117) (by decide) dX12_sameLow_27 ?_
  refine uu_iload_n dX12_sameLow_30 rfl (List.mem_of_getElem? (i := 1) rfl) ?_
  obtain ⟨v1, e2, h⟩ := uu_ob h
  refine uu_iald e2 dX12_sameLow_31 ?_
  refine uu_icmp_ge (tgt := 88) dX12_sameLow_32 (by decide) (fun c3 => ?_) (fun c3 => ?_)
  · replace h := uu_pos c3 h
    refine uu_iload_n dX12_sameLow_88 rfl (List.mem_of_getElem? (i := 3) rfl) ?_
    have hr := Option.some.inj h
    subst hr
    exact uu_zret (x := bI b3) rfl (bI_z _) dX12_sameLow_89
  · replace h := uu_neg c3 h
    refine uu_iload_n dX12_sameLow_35 rfl (List.mem_of_getElem? (i := 3) rfl) ?_
    refine uu_ifb_eq (tgt := 88) dX12_sameLow_36 (by decide) (fun c4 => ?_) (fun c4 => ?_)
    · replace h := uu_neg c4 h
      refine uu_iload_n dX12_sameLow_88 rfl (List.mem_of_getElem? (i := 3) rfl) ?_
      have hr := Option.some.inj h
      subst hr
      exact uu_zret (x := bI b3) rfl (bI_z _) dX12_sameLow_89
    · replace h := uu_pos c4 h
      refine uu_aload_n dX12_sameLow_39 rfl (List.mem_of_getElem? (i := 0) rfl) ?_
      refine uu_geta (ci := 12) (N := 153) fX12_260 (by decide) so_1079.is (by decide) (c := 1097) (by decide) dX12_sameLow_40 ?_
      refine uu_aload_n dX12_sameLow_43 rfl (List.mem_of_getElem? (i := 0) rfl) ?_
      refine uu_geta (ci := 12) (N := 153) fX12_343 (by decide) so_1079.is (by decide) (c := 1116) (by decide) dX12_sameLow_44 ?_
      refine uu_iload_n dX12_sameLow_47 rfl (List.mem_of_getElem? (i := 1) rfl) ?_
      obtain ⟨v5, e6, h⟩ := uu_ob h
      refine uu_iald e6 dX12_sameLow_48 ?_
      refine uu_iload dX12_sameLow_49 (List.mem_of_getElem? (i := 4) rfl) ?_
      refine uu_iadd dX12_sameLow_51 ?_
      obtain ⟨v7, e8, h⟩ := uu_ob h
      refine uu_iald e8 dX12_sameLow_52 ?_
      obtain ⟨v9, e10, h⟩ := uu_ob h
      refine uu_cs (d1 := 0) (As := [.int v7]) (st := []) (st' := [.int v9]) (xc_X12_low uk  e10) kX12_low lX12_119 sX12_low (by decide) (Nat.le_of_ble_eq_true rfl) dX12_sameLow_53 rfl ?_
      refine uu_aload_n dX12_sameLow_56 rfl (List.mem_of_getElem? (i := 0) rfl) ?_
      refine uu_geta (ci := 12) (N := 153) fX12_260 (by decide) so_1079.is (by decide) (c := 1097) (by decide) dX12_sameLow_57 ?_
      refine uu_aload_n dX12_sameLow_60 rfl (List.mem_of_getElem? (i := 0) rfl) ?_
      refine uu_geta (ci := 12) (N := 153) fX12_343 (by decide) so_1079.is (by decide) (c := 1116) (by decide) dX12_sameLow_61 ?_
      refine uu_iload_n dX12_sameLow_64 rfl (List.mem_of_getElem? (i := 2) rfl) ?_
      obtain ⟨v11, e12, h⟩ := uu_ob h
      refine uu_iald e12 dX12_sameLow_65 ?_
      refine uu_iload dX12_sameLow_66 (List.mem_of_getElem? (i := 4) rfl) ?_
      refine uu_iadd dX12_sameLow_68 ?_
      obtain ⟨v13, e14, h⟩ := uu_ob h
      refine uu_iald e14 dX12_sameLow_69 ?_
      obtain ⟨v15, e16, h⟩ := uu_ob h
      refine uu_cs (d1 := 0) (As := [.int v13]) (st := [.int v9]) (st' := [.int v15, .int v9]) (xc_X12_low uk  e16) kX12_low lX12_119 sX12_low (by decide) (Nat.le_of_ble_eq_true rfl) dX12_sameLow_70 rfl ?_
      refine uu_icmp_ne (tgt := 80) dX12_sameLow_73 (by decide) (fun c17 => ?_) (fun c17 => ?_)
      · replace h := uu_neg c17 h
        refine uu_iconst (v := 0) dX12_sameLow_80 (by decide) ?_
        refine uu_istore_n dX12_sameLow_81 rfl (by decide) rfl ?_
        refine uu_iinc (v := x4 + 1) dX12_sameLow_82 (k := 4) rfl rfl (by decide) rfl ?_
        refine uu_goto (tgt := 24) dX12_sameLow_85 (by decide) ?_
        refine uu_lv [2, 3, 4, 1, 0] (lv' := [(0, .ref (B + 1079)), (1, .int x1), (2, .int x2), (3, .int 0), (4, .int (x4 + 1))]) rfl ?_
        exact hK24 x1 x2 false (x4 + 1) _ _ h
      · replace h := uu_pos c17 h
        refine uu_iconst (v := 1) dX12_sameLow_76 (by decide) ?_
        refine uu_goto (tgt := 81) dX12_sameLow_77 (by decide) ?_
        refine uu_istore_n dX12_sameLow_81 rfl (by decide) rfl ?_
        refine uu_iinc (v := x4 + 1) dX12_sameLow_82 (k := 4) rfl rfl (by decide) rfl ?_
        refine uu_goto (tgt := 24) dX12_sameLow_85 (by decide) ?_
        refine uu_lv [2, 3, 4, 1, 0] (lv' := [(0, .ref (B + 1079)), (1, .int x1), (2, .int x2), (3, .int 1), (4, .int (x4 + 1))]) rfl ?_
        exact hK24 x1 x2 true (x4 + 1) _ _ h
def fn_X12_sameLow_24  : Nat → Int32 → Int32 → Bool → Int32 → uS → Option Bool
  | 0 => fun _ _ _ _ _ => none
  | n + 1 => fb_X12_sameLow_24 (fn_X12_sameLow_24  n)
set_option maxRecDepth 100000 in
set_option maxHeartbeats 4000000 in
theorem xn_X12_sameLow_24 {l : Launch} {D : va_G} {A : Nat → ClassId} {B : Nat} {Z : State → Heap → Prop} {vF : Value} (uk : uK B Z vF)   : ∀ (n : Nat) (x1 : Int32) (x2 : Int32) (b3 : Bool) (x4 : Int32)  (s : uS) (r : Bool), fn_X12_sameLow_24  n x1 x2 b3 x4 s = some r → GU l D A B Z mX12_sameLow 1 (s, some (.int (bI r))) s 24 [(0, .ref (B + 1079)), (1, .int x1), (2, .int x2), (3, .int (bI b3)), (4, .int x4)] [] := by
  intro n
  induction n with
  | zero => intro x1 x2 b3 x4 s r h
            cases h
  | succ n ih => intro x1 x2 b3 x4 s r h
                 exact xb_X12_sameLow_24 uk ih  h
def fn_X12_sameLow (x1 : Int32) (x2 : Int32) (s : uS) : Option Bool := (iget 20 s 1117 x1).bind fun v1 => (iget 20 s 1117 x2).bind fun v3 => if v1 = v3 then (fn_X12_sameLow_24 uFu x1 x2 true 0 s) else (fn_X12_sameLow_24 uFu x1 x2 false 0 s)
set_option maxRecDepth 100000 in
set_option maxHeartbeats 4000000 in
theorem xc_X12_sameLow {l : Launch} {D : va_G} {A : Nat → ClassId} {B : Nat} {Z : State → Heap → Prop} {vF : Value} (uk : uK B Z vF) {x1 : Int32} {x2 : Int32} {s : uS} {r : Bool}  (h : fn_X12_sameLow x1 x2 s = some r) : CU l D A B Z 1 mX12_sameLow s [.ref (B + 1079), .int x1, .int x2] (s, some (.int (bI r))) := by
  unfold fn_X12_sameLow at h
  refine cu_of rfl uk.1.1 (Nat.le_of_ble_eq_true rfl) ?_
  show GU _ _ _ _ _ _ _ _ _ 0 [(0, .ref (B + 1079)), (1, .int x1), (2, .int x2)] []
  refine uu_aload_n dX12_sameLow_0 rfl (List.mem_of_getElem? (i := 0) rfl) ?_
  refine uu_geta (ci := 12) (N := 153) fX12_346 (by decide) so_1079.is (by decide) (c := 1117) (by decide) dX12_sameLow_1 ?_
  refine uu_iload_n dX12_sameLow_4 rfl (List.mem_of_getElem? (i := 1) rfl) ?_
  obtain ⟨v1, e2, h⟩ := uu_ob h
  refine uu_iald e2 dX12_sameLow_5 ?_
  refine uu_aload_n dX12_sameLow_6 rfl (List.mem_of_getElem? (i := 0) rfl) ?_
  refine uu_geta (ci := 12) (N := 153) fX12_346 (by decide) so_1079.is (by decide) (c := 1117) (by decide) dX12_sameLow_7 ?_
  refine uu_iload_n dX12_sameLow_10 rfl (List.mem_of_getElem? (i := 2) rfl) ?_
  obtain ⟨v3, e4, h⟩ := uu_ob h
  refine uu_iald e4 dX12_sameLow_11 ?_
  refine uu_icmp_ne (tgt := 19) dX12_sameLow_12 (by decide) (fun c5 => ?_) (fun c5 => ?_)
  · replace h := uu_neg c5 h
    refine uu_iconst (v := 0) dX12_sameLow_19 (by decide) ?_
    refine uu_istore_n dX12_sameLow_20 rfl (by decide) rfl ?_
    refine uu_iconst (v := 0) dX12_sameLow_21 (by decide) ?_
    refine uu_istore dX12_sameLow_22 (by decide) rfl ?_
    refine uu_lv [2, 3, 4, 1, 0] (lv' := [(0, .ref (B + 1079)), (1, .int x1), (2, .int x2), (3, .int 0), (4, .int 0)]) rfl ?_
    exact xn_X12_sameLow_24 uk  _ _ _ _ _ _ _ h
  · replace h := uu_pos c5 h
    refine uu_iconst (v := 1) dX12_sameLow_15 (by decide) ?_
    refine uu_goto (tgt := 20) dX12_sameLow_16 (by decide) ?_
    refine uu_istore_n dX12_sameLow_20 rfl (by decide) rfl ?_
    refine uu_iconst (v := 0) dX12_sameLow_21 (by decide) ?_
    refine uu_istore dX12_sameLow_22 (by decide) rfl ?_
    refine uu_lv [2, 3, 4, 1, 0] (lv' := [(0, .ref (B + 1079)), (1, .int x1), (2, .int x2), (3, .int 1), (4, .int 0)]) rfl ?_
    exact xn_X12_sameLow_24 uk  _ _ _ _ _ _ _ h
abbrev mX12_redirect1 : hM := (yX12_redirect1, cX12_redirect1, 4, none)
theorem dX12_redirect1_4 : decode cX12_redirect1 4 = .ok (.iload_n 3, 1) := by decide +kernel
theorem dX12_redirect1_5 : decode cX12_redirect1 5 = .ok (.aload_n 0, 1) := by decide +kernel
theorem fX12_787 : h_fl RX12 787 12 100 RX12 TX12 153 := ⟨rfl, by decide, inX12, h_t12 61 rfl rfl⟩
theorem dX12_redirect1_6 : decode cX12_redirect1 6 = .ok (.getfield 787, 3) := by decide +kernel
theorem dX12_redirect1_9 : decode cX12_redirect1 9 = .ok (.if_icmp .ge 33, 3) := by decide +kernel
theorem dX12_redirect1_42 : decode cX12_redirect1 42 = .ok (.iload_n 2, 1) := by decide +kernel
theorem dX12_redirect1_43 : decode cX12_redirect1 43 = .ok (.ifCond .eq 4, 3) := by decide +kernel
theorem dX12_redirect1_47 : decode cX12_redirect1 47 = .ok (.aload_n 0, 1) := by decide +kernel
theorem dX12_redirect1_48 : decode cX12_redirect1 48 = .ok (.getfield 790, 3) := by decide +kernel
theorem dX12_redirect1_51 : decode cX12_redirect1 51 = .ok (.aload_n 0, 1) := by decide +kernel
theorem dX12_redirect1_52 : decode cX12_redirect1 52 = .ok (.getfield 787, 3) := by decide +kernel
theorem dX12_redirect1_55 : decode cX12_redirect1 55 = .ok (.iload_n 1, 1) := by decide +kernel
theorem dX12_redirect1_56 : decode cX12_redirect1 56 = .ok (.iastore, 1) := by decide +kernel
theorem dX12_redirect1_57 : decode cX12_redirect1 57 = .ok (.aload_n 0, 1) := by decide +kernel
theorem dX12_redirect1_58 : decode cX12_redirect1 58 = .ok (.aload_n 0, 1) := by decide +kernel
theorem dX12_redirect1_59 : decode cX12_redirect1 59 = .ok (.getfield 787, 3) := by decide +kernel
theorem dX12_redirect1_62 : decode cX12_redirect1 62 = .ok (.iconst 1, 1) := by decide +kernel
theorem dX12_redirect1_63 : decode cX12_redirect1 63 = .ok (.iadd, 1) := by decide +kernel
theorem dX12_redirect1_64 : decode cX12_redirect1 64 = .ok (.putfield 787, 3) := by decide +kernel
theorem dX12_redirect1_67 : decode cX12_redirect1 67 = .ok (.return_, 1) := by decide +kernel
theorem dX12_redirect1_46 : decode cX12_redirect1 46 = .ok (.return_, 1) := by decide +kernel
theorem dX12_redirect1_12 : decode cX12_redirect1 12 = .ok (.iload_n 2, 1) := by decide +kernel
theorem dX12_redirect1_13 : decode cX12_redirect1 13 = .ok (.ifCond .ne 17, 3) := by decide +kernel
theorem dX12_redirect1_30 : decode cX12_redirect1 30 = .ok (.iconst 1, 1) := by decide +kernel
theorem dX12_redirect1_31 : decode cX12_redirect1 31 = .ok (.goto 4, 3) := by decide +kernel
theorem dX12_redirect1_35 : decode cX12_redirect1 35 = .ok (.istore_n 2, 1) := by decide +kernel
theorem dX12_redirect1_36 : decode cX12_redirect1 36 = .ok (.iinc 3 1, 3) := by decide +kernel
theorem dX12_redirect1_39 : decode cX12_redirect1 39 = .ok (.goto (-35), 3) := by decide +kernel
theorem dX12_redirect1_16 : decode cX12_redirect1 16 = .ok (.aload_n 0, 1) := by decide +kernel
theorem dX12_redirect1_17 : decode cX12_redirect1 17 = .ok (.iload_n 1, 1) := by decide +kernel
theorem dX12_redirect1_18 : decode cX12_redirect1 18 = .ok (.aload_n 0, 1) := by decide +kernel
theorem dX12_redirect1_19 : decode cX12_redirect1 19 = .ok (.getfield 790, 3) := by decide +kernel
theorem dX12_redirect1_22 : decode cX12_redirect1 22 = .ok (.iload_n 3, 1) := by decide +kernel
theorem dX12_redirect1_23 : decode cX12_redirect1 23 = .ok (.iaload, 1) := by decide +kernel
theorem kX12_sameLow : h_ml mX12_sameLow 2 := ⟨h_t10 19 rfl rfl, h_t1 16 rfl rfl, ⟨by decide, by decide, by decide +kernel⟩, by decide⟩
theorem lX12_793 : Cond.methodLink RX12 793 mX12_sameLow.1 ∈ lw_g := h_t10 16 rfl rfl
theorem sX12_sameLow : Cond.instanceMethod mX12_sameLow.1 ∈ lw_g ∧ Cond.selects mX12_sameLow.1.cls mX12_sameLow.1 mX12_sameLow.1 ∈ lw_g := ⟨h_t10 18 rfl rfl, h_ins 202 rfl⟩
theorem dX12_redirect1_24 : decode cX12_redirect1 24 = .ok (.invokevirtual 793, 3) := by decide +kernel
theorem dX12_redirect1_27 : decode cX12_redirect1 27 = .ok (.ifCond .eq 7, 3) := by decide +kernel
theorem dX12_redirect1_34 : decode cX12_redirect1 34 = .ok (.iconst 0, 1) := by decide +kernel
theorem dX12_redirect1_0 : decode cX12_redirect1 0 = .ok (.iconst 0, 1) := by decide +kernel
theorem dX12_redirect1_1 : decode cX12_redirect1 1 = .ok (.istore_n 2, 1) := by decide +kernel
theorem dX12_redirect1_2 : decode cX12_redirect1 2 = .ok (.iconst 0, 1) := by decide +kernel
theorem dX12_redirect1_3 : decode cX12_redirect1 3 = .ok (.istore_n 3, 1) := by decide +kernel
def fb_X12_redirect1_4 (K4 : Int32 → Bool → Int32 → uS → Option uS) (x1 : Int32) (b2 : Bool) (x3 : Int32) (s : uS) : Option uS := if (s.I 1079 100) ≤ x3 then (if b2 = true then (some s) else ((iput 20 s 1140 (s.I 1079 100) x1).bind fun s3 => some (wI s3 1079 100 ((s3.I 1079 100) + 1)))) else (if b2 = true then (K4 x1 true (x3 + 1) s) else ((iget 20 s 1140 x3).bind fun v6 => (fn_X12_sameLow x1 v6 s).bind fun v8 => if v8 = true then (K4 x1 true (x3 + 1) s) else (K4 x1 false (x3 + 1) s)))
set_option maxRecDepth 100000 in
set_option maxHeartbeats 4000000 in
theorem xb_X12_redirect1_4 {l : Launch} {D : va_G} {A : Nat → ClassId} {B : Nat} {Z : State → Heap → Prop} {vF : Value} (uk : uK B Z vF) {K4 : Int32 → Bool → Int32 → uS → Option uS} (hK4 : ∀ (x1 : Int32) (b2 : Bool) (x3 : Int32)  (s : uS) (r : uS), K4 x1 b2 x3 s = some r → GU l D A B Z mX12_redirect1 2 (r, none) s 4 [(0, .ref (B + 1079)), (1, .int x1), (2, .int (bI b2)), (3, .int x3)] []) {x1 : Int32} {b2 : Bool} {x3 : Int32} {s : uS} {r : uS}  (h : fb_X12_redirect1_4 K4 x1 b2 x3 s = some r) : GU l D A B Z mX12_redirect1 2 (r, none) s 4 [(0, .ref (B + 1079)), (1, .int x1), (2, .int (bI b2)), (3, .int x3)] [] := by
  unfold fb_X12_redirect1_4 at h
  refine uu_iload_n dX12_redirect1_4 rfl (List.mem_of_getElem? (i := 3) rfl) ?_
  refine uu_aload_n dX12_redirect1_5 rfl (List.mem_of_getElem? (i := 0) rfl) ?_
  refine uu_geti (ci := 12) (N := 153) fX12_787 (by decide) so_1079.is (by decide) (by decide) dX12_redirect1_6 ?_
  refine uu_icmp_ge (tgt := 42) dX12_redirect1_9 (by decide) (fun c1 => ?_) (fun c1 => ?_)
  · replace h := uu_pos c1 h
    refine uu_iload_n dX12_redirect1_42 rfl (List.mem_of_getElem? (i := 2) rfl) ?_
    refine uu_ifb_eq (tgt := 47) dX12_redirect1_43 (by decide) (fun c2 => ?_) (fun c2 => ?_)
    · replace h := uu_neg c2 h
      refine uu_aload_n dX12_redirect1_47 rfl (List.mem_of_getElem? (i := 0) rfl) ?_
      refine uu_geta (ci := 12) (N := 153) fX12_790 (by decide) so_1079.is (by decide) (c := 1140) (by decide) dX12_redirect1_48 ?_
      refine uu_aload_n dX12_redirect1_51 rfl (List.mem_of_getElem? (i := 0) rfl) ?_
      refine uu_geti (ci := 12) (N := 153) fX12_787 (by decide) so_1079.is (by decide) (by decide) dX12_redirect1_52 ?_
      refine uu_iload_n dX12_redirect1_55 rfl (List.mem_of_getElem? (i := 1) rfl) ?_
      obtain ⟨s3, e4, h⟩ := uu_ob h
      refine uu_iast e4 dX12_redirect1_56 ?_
      refine uu_aload_n dX12_redirect1_57 rfl (List.mem_of_getElem? (i := 0) rfl) ?_
      refine uu_aload_n dX12_redirect1_58 rfl (List.mem_of_getElem? (i := 0) rfl) ?_
      refine uu_geti (ci := 12) (N := 153) fX12_787 (by decide) so_1079.is (by decide) (by decide) dX12_redirect1_59 ?_
      refine uu_iconst (v := 1) dX12_redirect1_62 (by decide) ?_
      refine uu_iadd dX12_redirect1_63 ?_
      refine uu_puti (ft := .int) (ci := 12) (N := 153) fX12_787 ptX12 (Or.inl rfl) (by decide) so_1079.is (by decide) (by decide) (by decide +kernel) rfl rfl dX12_redirect1_64 ?_
      have hr := Option.some.inj h
      subst hr
      exact uu_vret rfl dX12_redirect1_67
    · replace h := uu_pos c2 h
      have hr := Option.some.inj h
      subst hr
      exact uu_vret rfl dX12_redirect1_46
  · replace h := uu_neg c1 h
    refine uu_iload_n dX12_redirect1_12 rfl (List.mem_of_getElem? (i := 2) rfl) ?_
    refine uu_ifb_ne (tgt := 30) dX12_redirect1_13 (by decide) (fun c5 => ?_) (fun c5 => ?_)
    · replace h := uu_pos c5 h
      refine uu_iconst (v := 1) dX12_redirect1_30 (by decide) ?_
      refine uu_goto (tgt := 35) dX12_redirect1_31 (by decide) ?_
      refine uu_istore_n dX12_redirect1_35 rfl (by decide) rfl ?_
      refine uu_iinc (v := x3 + 1) dX12_redirect1_36 (k := 3) rfl rfl (by decide) rfl ?_
      refine uu_goto (tgt := 4) dX12_redirect1_39 (by decide) ?_
      refine uu_lv [2, 3, 1, 0] (lv' := [(0, .ref (B + 1079)), (1, .int x1), (2, .int 1), (3, .int (x3 + 1))]) rfl ?_
      exact hK4 x1 true (x3 + 1) _ _ h
    · replace h := uu_neg c5 h
      refine uu_aload_n dX12_redirect1_16 rfl (List.mem_of_getElem? (i := 0) rfl) ?_
      refine uu_iload_n dX12_redirect1_17 rfl (List.mem_of_getElem? (i := 1) rfl) ?_
      refine uu_aload_n dX12_redirect1_18 rfl (List.mem_of_getElem? (i := 0) rfl) ?_
      refine uu_geta (ci := 12) (N := 153) fX12_790 (by decide) so_1079.is (by decide) (c := 1140) (by decide) dX12_redirect1_19 ?_
      refine uu_iload_n dX12_redirect1_22 rfl (List.mem_of_getElem? (i := 3) rfl) ?_
      obtain ⟨v6, e7, h⟩ := uu_ob h
      refine uu_iald e7 dX12_redirect1_23 ?_
      obtain ⟨v8, e9, h⟩ := uu_ob h
      refine uu_cv (d1 := 1) (k := 1079) (ci := 12) (T := TX12) (N := 153) (As := [.int x1, .int v6]) (st := []) (st' := [.int (bI v8)]) (xc_X12_sameLow uk  e9) so_1079.is (by decide) rfl kX12_sameLow lX12_793 sX12_sameLow (by decide) (Nat.le_of_ble_eq_true rfl) dX12_redirect1_24 rfl ?_
      refine uu_ifb_eq (tgt := 34) dX12_redirect1_27 (by decide) (fun c10 => ?_) (fun c10 => ?_)
      · replace h := uu_neg c10 h
        refine uu_iconst (v := 0) dX12_redirect1_34 (by decide) ?_
        refine uu_istore_n dX12_redirect1_35 rfl (by decide) rfl ?_
        refine uu_iinc (v := x3 + 1) dX12_redirect1_36 (k := 3) rfl rfl (by decide) rfl ?_
        refine uu_goto (tgt := 4) dX12_redirect1_39 (by decide) ?_
        refine uu_lv [2, 3, 1, 0] (lv' := [(0, .ref (B + 1079)), (1, .int x1), (2, .int 0), (3, .int (x3 + 1))]) rfl ?_
        exact hK4 x1 false (x3 + 1) _ _ h
      · replace h := uu_pos c10 h
        refine uu_iconst (v := 1) dX12_redirect1_30 (by decide) ?_
        refine uu_goto (tgt := 35) dX12_redirect1_31 (by decide) ?_
        refine uu_istore_n dX12_redirect1_35 rfl (by decide) rfl ?_
        refine uu_iinc (v := x3 + 1) dX12_redirect1_36 (k := 3) rfl rfl (by decide) rfl ?_
        refine uu_goto (tgt := 4) dX12_redirect1_39 (by decide) ?_
        refine uu_lv [2, 3, 1, 0] (lv' := [(0, .ref (B + 1079)), (1, .int x1), (2, .int 1), (3, .int (x3 + 1))]) rfl ?_
        exact hK4 x1 true (x3 + 1) _ _ h
def fn_X12_redirect1_4  : Nat → Int32 → Bool → Int32 → uS → Option uS
  | 0 => fun _ _ _ _ => none
  | n + 1 => fb_X12_redirect1_4 (fn_X12_redirect1_4  n)
set_option maxRecDepth 100000 in
set_option maxHeartbeats 4000000 in
theorem xn_X12_redirect1_4 {l : Launch} {D : va_G} {A : Nat → ClassId} {B : Nat} {Z : State → Heap → Prop} {vF : Value} (uk : uK B Z vF)   : ∀ (n : Nat) (x1 : Int32) (b2 : Bool) (x3 : Int32)  (s : uS) (r : uS), fn_X12_redirect1_4  n x1 b2 x3 s = some r → GU l D A B Z mX12_redirect1 2 (r, none) s 4 [(0, .ref (B + 1079)), (1, .int x1), (2, .int (bI b2)), (3, .int x3)] [] := by
  intro n
  induction n with
  | zero => intro x1 b2 x3 s r h
            cases h
  | succ n ih => intro x1 b2 x3 s r h
                 exact xb_X12_redirect1_4 uk ih  h
def fn_X12_redirect1 (x1 : Int32) (s : uS) : Option uS := fn_X12_redirect1_4 uFu x1 false 0 s
set_option maxRecDepth 100000 in
set_option maxHeartbeats 4000000 in
theorem xc_X12_redirect1 {l : Launch} {D : va_G} {A : Nat → ClassId} {B : Nat} {Z : State → Heap → Prop} {vF : Value} (uk : uK B Z vF) {x1 : Int32} {s : uS} {r : uS}  (h : fn_X12_redirect1 x1 s = some r) : CU l D A B Z 2 mX12_redirect1 s [.ref (B + 1079), .int x1] (r, none) := by
  unfold fn_X12_redirect1 at h
  refine cu_of rfl uk.1.1 (Nat.le_of_ble_eq_true rfl) ?_
  show GU _ _ _ _ _ _ _ _ _ 0 [(0, .ref (B + 1079)), (1, .int x1)] []
  refine uu_iconst (v := 0) dX12_redirect1_0 (by decide) ?_
  refine uu_istore_n dX12_redirect1_1 rfl (by decide) rfl ?_
  refine uu_iconst (v := 0) dX12_redirect1_2 (by decide) ?_
  refine uu_istore_n dX12_redirect1_3 rfl (by decide) rfl ?_
  refine uu_lv [2, 3, 1, 0] (lv' := [(0, .ref (B + 1079)), (1, .int x1), (2, .int 0), (3, .int 0)]) rfl ?_
  exact xn_X12_redirect1_4 uk  _ _ _ _ _ _ h
abbrev mX12_boxOf : hM := (yX12_boxOf, cX12_boxOf, 6, (some (.int)))
theorem dX12_boxOf_126 : decode cX12_boxOf 126 = .ok (.iload 4, 2) := by decide +kernel
theorem dX12_boxOf_128 : decode cX12_boxOf 128 = .ok (.ifCond .eq 5, 3) := by decide +kernel
theorem dX12_boxOf_133 : decode cX12_boxOf 133 = .ok (.iinc 2 1, 3) := by decide +kernel
theorem dX12_boxOf_136 : decode cX12_boxOf 136 = .ok (.goto (-124), 3) := by decide +kernel
theorem dX12_boxOf_131 : decode cX12_boxOf 131 = .ok (.iload_n 2, 1) := by decide +kernel
theorem dX12_boxOf_132 : decode cX12_boxOf 132 = .ok (.ireturn, 1) := by decide +kernel
theorem dX12_boxOf_71 : decode cX12_boxOf 71 = .ok (.iload 5, 2) := by decide +kernel
theorem dX12_boxOf_73 : decode cX12_boxOf 73 = .ok (.aload_n 0, 1) := by decide +kernel
theorem dX12_boxOf_74 : decode cX12_boxOf 74 = .ok (.getfield 346, 3) := by decide +kernel
theorem dX12_boxOf_77 : decode cX12_boxOf 77 = .ok (.iload_n 1, 1) := by decide +kernel
theorem dX12_boxOf_78 : decode cX12_boxOf 78 = .ok (.iaload, 1) := by decide +kernel
theorem dX12_boxOf_79 : decode cX12_boxOf 79 = .ok (.if_icmp .ge 47, 3) := by decide +kernel
theorem dX12_boxOf_82 : decode cX12_boxOf 82 = .ok (.iload 4, 2) := by decide +kernel
theorem dX12_boxOf_84 : decode cX12_boxOf 84 = .ok (.ifCond .eq 42, 3) := by decide +kernel
theorem dX12_boxOf_87 : decode cX12_boxOf 87 = .ok (.aload_n 0, 1) := by decide +kernel
theorem dX12_boxOf_88 : decode cX12_boxOf 88 = .ok (.getfield 805, 3) := by decide +kernel
theorem dX12_boxOf_91 : decode cX12_boxOf 91 = .ok (.iload_n 3, 1) := by decide +kernel
theorem dX12_boxOf_92 : decode cX12_boxOf 92 = .ok (.iload 5, 2) := by decide +kernel
theorem dX12_boxOf_94 : decode cX12_boxOf 94 = .ok (.iadd, 1) := by decide +kernel
theorem dX12_boxOf_95 : decode cX12_boxOf 95 = .ok (.iaload, 1) := by decide +kernel
theorem dX12_boxOf_96 : decode cX12_boxOf 96 = .ok (.aload_n 0, 1) := by decide +kernel
theorem dX12_boxOf_97 : decode cX12_boxOf 97 = .ok (.getfield 260, 3) := by decide +kernel
theorem dX12_boxOf_100 : decode cX12_boxOf 100 = .ok (.aload_n 0, 1) := by decide +kernel
theorem dX12_boxOf_101 : decode cX12_boxOf 101 = .ok (.getfield 343, 3) := by decide +kernel
theorem dX12_boxOf_104 : decode cX12_boxOf 104 = .ok (.iload_n 1, 1) := by decide +kernel
theorem dX12_boxOf_105 : decode cX12_boxOf 105 = .ok (.iaload, 1) := by decide +kernel
theorem dX12_boxOf_106 : decode cX12_boxOf 106 = .ok (.iload 5, 2) := by decide +kernel
theorem dX12_boxOf_108 : decode cX12_boxOf 108 = .ok (.iadd, 1) := by decide +kernel
theorem dX12_boxOf_109 : decode cX12_boxOf 109 = .ok (.iaload, 1) := by decide +kernel
theorem dX12_boxOf_110 : decode cX12_boxOf 110 = .ok (.if_icmp .ne 7, 3) := by decide +kernel
theorem dX12_boxOf_117 : decode cX12_boxOf 117 = .ok (.iconst 0, 1) := by decide +kernel
theorem dX12_boxOf_118 : decode cX12_boxOf 118 = .ok (.istore 4, 2) := by decide +kernel
theorem dX12_boxOf_120 : decode cX12_boxOf 120 = .ok (.iinc 5 1, 3) := by decide +kernel
theorem dX12_boxOf_123 : decode cX12_boxOf 123 = .ok (.goto (-52), 3) := by decide +kernel
theorem dX12_boxOf_113 : decode cX12_boxOf 113 = .ok (.iconst 1, 1) := by decide +kernel
theorem dX12_boxOf_114 : decode cX12_boxOf 114 = .ok (.goto 4, 3) := by decide +kernel
theorem dX12_boxOf_12 : decode cX12_boxOf 12 = .ok (.iload_n 2, 1) := by decide +kernel
theorem dX12_boxOf_13 : decode cX12_boxOf 13 = .ok (.aload_n 0, 1) := by decide +kernel
theorem dX12_boxOf_14 : decode cX12_boxOf 14 = .ok (.getfield 796, 3) := by decide +kernel
theorem dX12_boxOf_17 : decode cX12_boxOf 17 = .ok (.aload_n 0, 1) := by decide +kernel
theorem fX12_799 : h_fl RX12 799 12 89 RX12 TX12 153 := ⟨rfl, by decide, inX12, h_t12 50 rfl rfl⟩
theorem dX12_boxOf_18 : decode cX12_boxOf 18 = .ok (.getfield 799, 3) := by decide +kernel
theorem dX12_boxOf_21 : decode cX12_boxOf 21 = .ok (.iaload, 1) := by decide +kernel
theorem dX12_boxOf_22 : decode cX12_boxOf 22 = .ok (.if_icmp .ge 117, 3) := by decide +kernel
theorem dX12_boxOf_139 : decode cX12_boxOf 139 = .ok (.iconst (-1), 1) := by decide +kernel
theorem dX12_boxOf_140 : decode cX12_boxOf 140 = .ok (.ireturn, 1) := by decide +kernel
theorem dX12_boxOf_25 : decode cX12_boxOf 25 = .ok (.bipush 20, 2) := by decide +kernel
theorem dX12_boxOf_27 : decode cX12_boxOf 27 = .ok (.bipush 6, 2) := by decide +kernel
theorem dX12_boxOf_29 : decode cX12_boxOf 29 = .ok (.aload_n 0, 1) := by decide +kernel
theorem dX12_boxOf_30 : decode cX12_boxOf 30 = .ok (.getfield 799, 3) := by decide +kernel
theorem dX12_boxOf_33 : decode cX12_boxOf 33 = .ok (.imul, 1) := by decide +kernel
theorem dX12_boxOf_34 : decode cX12_boxOf 34 = .ok (.iload_n 2, 1) := by decide +kernel
theorem dX12_boxOf_35 : decode cX12_boxOf 35 = .ok (.iadd, 1) := by decide +kernel
theorem dX12_boxOf_36 : decode cX12_boxOf 36 = .ok (.imul, 1) := by decide +kernel
theorem dX12_boxOf_37 : decode cX12_boxOf 37 = .ok (.istore_n 3, 1) := by decide +kernel
theorem dX12_boxOf_38 : decode cX12_boxOf 38 = .ok (.aload_n 0, 1) := by decide +kernel
theorem dX12_boxOf_39 : decode cX12_boxOf 39 = .ok (.getfield 802, 3) := by decide +kernel
theorem dX12_boxOf_42 : decode cX12_boxOf 42 = .ok (.bipush 6, 2) := by decide +kernel
theorem dX12_boxOf_44 : decode cX12_boxOf 44 = .ok (.aload_n 0, 1) := by decide +kernel
theorem dX12_boxOf_45 : decode cX12_boxOf 45 = .ok (.getfield 799, 3) := by decide +kernel
theorem dX12_boxOf_48 : decode cX12_boxOf 48 = .ok (.imul, 1) := by decide +kernel
theorem dX12_boxOf_49 : decode cX12_boxOf 49 = .ok (.iload_n 2, 1) := by decide +kernel
theorem dX12_boxOf_50 : decode cX12_boxOf 50 = .ok (.iadd, 1) := by decide +kernel
theorem dX12_boxOf_51 : decode cX12_boxOf 51 = .ok (.iaload, 1) := by decide +kernel
theorem dX12_boxOf_52 : decode cX12_boxOf 52 = .ok (.aload_n 0, 1) := by decide +kernel
theorem dX12_boxOf_53 : decode cX12_boxOf 53 = .ok (.getfield 346, 3) := by decide +kernel
theorem dX12_boxOf_56 : decode cX12_boxOf 56 = .ok (.iload_n 1, 1) := by decide +kernel
theorem dX12_boxOf_57 : decode cX12_boxOf 57 = .ok (.iaload, 1) := by decide +kernel
theorem dX12_boxOf_58 : decode cX12_boxOf 58 = .ok (.if_icmp .ne 7, 3) := by decide +kernel
theorem dX12_boxOf_65 : decode cX12_boxOf 65 = .ok (.iconst 0, 1) := by decide +kernel
theorem dX12_boxOf_66 : decode cX12_boxOf 66 = .ok (.istore 4, 2) := by decide +kernel
theorem dX12_boxOf_68 : decode cX12_boxOf 68 = .ok (.iconst 0, 1) := by decide +kernel
theorem dX12_boxOf_69 : decode cX12_boxOf 69 = .ok (.istore 5, 2) := by decide +kernel
theorem dX12_boxOf_61 : decode cX12_boxOf 61 = .ok (.iconst 1, 1) := by decide +kernel
theorem dX12_boxOf_62 : decode cX12_boxOf 62 = .ok (.goto 4, 3) := by decide +kernel
theorem dX12_boxOf_0 : decode cX12_boxOf 0 = .ok (.aload_n 0, 1) := by decide +kernel
theorem dX12_boxOf_1 : decode cX12_boxOf 1 = .ok (.iload_n 1, 1) := by decide +kernel
theorem dX12_boxOf_2 : decode cX12_boxOf 2 = .ok (.invokevirtual 769, 3) := by decide +kernel
theorem dX12_boxOf_5 : decode cX12_boxOf 5 = .ok (.ifCond .eq 5, 3) := by decide +kernel
theorem dX12_boxOf_10 : decode cX12_boxOf 10 = .ok (.iconst 1, 1) := by decide +kernel
theorem dX12_boxOf_11 : decode cX12_boxOf 11 = .ok (.istore_n 2, 1) := by decide +kernel
theorem dX12_boxOf_8 : decode cX12_boxOf 8 = .ok (.iconst 0, 1) := by decide +kernel
theorem dX12_boxOf_9 : decode cX12_boxOf 9 = .ok (.ireturn, 1) := by decide +kernel
def fb_X12_boxOf_126 (K12 : Int32 → Int32 → uS → Option (uS × Int32)) (x1 : Int32) (x2 : Int32) (b4 : Bool) (s : uS) : Option (uS × Int32) := if b4 = true then (some (s, x2)) else (K12 x1 (x2 + 1) s)
set_option maxRecDepth 100000 in
set_option maxHeartbeats 4000000 in
theorem xb_X12_boxOf_126 {l : Launch} {D : va_G} {A : Nat → ClassId} {B : Nat} {Z : State → Heap → Prop} {vF : Value} (uk : uK B Z vF) {K12 : Int32 → Int32 → uS → Option (uS × Int32)} (hK12 : ∀ (x1 : Int32) (x2 : Int32)  (s : uS) (r : (uS × Int32)), K12 x1 x2 s = some r → GU l D A B Z mX12_boxOf 7 (r.1, some (.int r.2)) s 12 [(0, .ref (B + 1079)), (1, .int x1), (2, .int x2)] []) {x1 : Int32} {x2 : Int32} {b4 : Bool} {s : uS} {r : (uS × Int32)}  (h : fb_X12_boxOf_126 K12 x1 x2 b4 s = some r) : GU l D A B Z mX12_boxOf 7 (r.1, some (.int r.2)) s 126 [(0, .ref (B + 1079)), (1, .int x1), (2, .int x2), (4, .int (bI b4))] [] := by
  unfold fb_X12_boxOf_126 at h
  refine uu_iload dX12_boxOf_126 (List.mem_of_getElem? (i := 3) rfl) ?_
  refine uu_ifb_eq (tgt := 133) dX12_boxOf_128 (by decide) (fun c1 => ?_) (fun c1 => ?_)
  · replace h := uu_neg c1 h
    refine uu_iinc (v := x2 + 1) dX12_boxOf_133 (k := 2) rfl rfl (by decide) rfl ?_
    refine uu_goto (tgt := 12) dX12_boxOf_136 (by decide) ?_
    refine uu_lv [1, 2, 0] (lv' := [(0, .ref (B + 1079)), (1, .int x1), (2, .int (x2 + 1))]) rfl ?_
    exact hK12 x1 (x2 + 1) _ _ h
  · replace h := uu_pos c1 h
    refine uu_iload_n dX12_boxOf_131 rfl (List.mem_of_getElem? (i := 2) rfl) ?_
    have hr := Option.some.inj h
    subst hr
    exact uu_iret rfl dX12_boxOf_132
def fb_X12_boxOf_71 (K12 : Int32 → Int32 → uS → Option (uS × Int32)) (K71 : Int32 → Int32 → Int32 → Bool → Int32 → uS → Option (uS × Int32)) (x1 : Int32) (x2 : Int32) (x3 : Int32) (b4 : Bool) (x5 : Int32) (s : uS) : Option (uS × Int32) := (iget 20 s 1117 x1).bind fun v1 => if v1 ≤ x5 then (fb_X12_boxOf_126 K12 x1 x2 b4 s) else (if b4 = true then ((iget 20 s 1127 (x3 + x5)).bind fun v5 => (iget 20 s 1116 x1).bind fun v7 => (iget 20 s 1097 (v7 + x5)).bind fun v9 => if v5 = v9 then (K71 x1 x2 x3 true (x5 + 1) s) else (K71 x1 x2 x3 false (x5 + 1) s)) else (fb_X12_boxOf_126 K12 x1 x2 b4 s))
set_option maxRecDepth 100000 in
set_option maxHeartbeats 4000000 in
theorem xb_X12_boxOf_71 {l : Launch} {D : va_G} {A : Nat → ClassId} {B : Nat} {Z : State → Heap → Prop} {vF : Value} (uk : uK B Z vF) {K12 : Int32 → Int32 → uS → Option (uS × Int32)} {K71 : Int32 → Int32 → Int32 → Bool → Int32 → uS → Option (uS × Int32)} (hK12 : ∀ (x1 : Int32) (x2 : Int32)  (s : uS) (r : (uS × Int32)), K12 x1 x2 s = some r → GU l D A B Z mX12_boxOf 7 (r.1, some (.int r.2)) s 12 [(0, .ref (B + 1079)), (1, .int x1), (2, .int x2)] []) (hK71 : ∀ (x1 : Int32) (x2 : Int32) (x3 : Int32) (b4 : Bool) (x5 : Int32)  (s : uS) (r : (uS × Int32)), K71 x1 x2 x3 b4 x5 s = some r → GU l D A B Z mX12_boxOf 7 (r.1, some (.int r.2)) s 71 [(0, .ref (B + 1079)), (1, .int x1), (2, .int x2), (3, .int x3), (4, .int (bI b4)), (5, .int x5)] []) {x1 : Int32} {x2 : Int32} {x3 : Int32} {b4 : Bool} {x5 : Int32} {s : uS} {r : (uS × Int32)}  (h : fb_X12_boxOf_71 K12 K71 x1 x2 x3 b4 x5 s = some r) : GU l D A B Z mX12_boxOf 7 (r.1, some (.int r.2)) s 71 [(0, .ref (B + 1079)), (1, .int x1), (2, .int x2), (3, .int x3), (4, .int (bI b4)), (5, .int x5)] [] := by
  unfold fb_X12_boxOf_71 at h
  refine uu_iload dX12_boxOf_71 (List.mem_of_getElem? (i := 5) rfl) ?_
  refine uu_aload_n dX12_boxOf_73 rfl (List.mem_of_getElem? (i := 0) rfl) ?_
  refine uu_geta (ci := 12) (N := 153) fX12_346 (by decide) so_1079.is (by decide) (c := 1117) (by decide) dX12_boxOf_74 ?_
  refine uu_iload_n dX12_boxOf_77 rfl (List.mem_of_getElem? (i := 1) rfl) ?_
  obtain ⟨v1, e2, h⟩ := uu_ob h
  refine uu_iald e2 dX12_boxOf_78 ?_
  refine uu_icmp_ge (tgt := 126) dX12_boxOf_79 (by decide) (fun c3 => ?_) (fun c3 => ?_)
  · replace h := uu_pos c3 h
    refine uu_lv [0, 1, 2, 4] (lv' := [(0, .ref (B + 1079)), (1, .int x1), (2, .int x2), (4, .int (bI b4))]) rfl ?_
    exact xb_X12_boxOf_126 uk hK12 h
  · replace h := uu_neg c3 h
    refine uu_iload dX12_boxOf_82 (List.mem_of_getElem? (i := 4) rfl) ?_
    refine uu_ifb_eq (tgt := 126) dX12_boxOf_84 (by decide) (fun c4 => ?_) (fun c4 => ?_)
    · replace h := uu_neg c4 h
      refine uu_lv [0, 1, 2, 4] (lv' := [(0, .ref (B + 1079)), (1, .int x1), (2, .int x2), (4, .int (bI b4))]) rfl ?_
      exact xb_X12_boxOf_126 uk hK12 h
    · replace h := uu_pos c4 h
      refine uu_aload_n dX12_boxOf_87 rfl (List.mem_of_getElem? (i := 0) rfl) ?_
      refine uu_geta (ci := 12) (N := 153) fX12_805 (by decide) so_1079.is (by decide) (c := 1127) (by decide) dX12_boxOf_88 ?_
      refine uu_iload_n dX12_boxOf_91 rfl (List.mem_of_getElem? (i := 3) rfl) ?_
      refine uu_iload dX12_boxOf_92 (List.mem_of_getElem? (i := 5) rfl) ?_
      refine uu_iadd dX12_boxOf_94 ?_
      obtain ⟨v5, e6, h⟩ := uu_ob h
      refine uu_iald e6 dX12_boxOf_95 ?_
      refine uu_aload_n dX12_boxOf_96 rfl (List.mem_of_getElem? (i := 0) rfl) ?_
      refine uu_geta (ci := 12) (N := 153) fX12_260 (by decide) so_1079.is (by decide) (c := 1097) (by decide) dX12_boxOf_97 ?_
      refine uu_aload_n dX12_boxOf_100 rfl (List.mem_of_getElem? (i := 0) rfl) ?_
      refine uu_geta (ci := 12) (N := 153) fX12_343 (by decide) so_1079.is (by decide) (c := 1116) (by decide) dX12_boxOf_101 ?_
      refine uu_iload_n dX12_boxOf_104 rfl (List.mem_of_getElem? (i := 1) rfl) ?_
      obtain ⟨v7, e8, h⟩ := uu_ob h
      refine uu_iald e8 dX12_boxOf_105 ?_
      refine uu_iload dX12_boxOf_106 (List.mem_of_getElem? (i := 5) rfl) ?_
      refine uu_iadd dX12_boxOf_108 ?_
      obtain ⟨v9, e10, h⟩ := uu_ob h
      refine uu_iald e10 dX12_boxOf_109 ?_
      refine uu_icmp_ne (tgt := 117) dX12_boxOf_110 (by decide) (fun c11 => ?_) (fun c11 => ?_)
      · replace h := uu_neg c11 h
        refine uu_iconst (v := 0) dX12_boxOf_117 (by decide) ?_
        refine uu_istore dX12_boxOf_118 (by decide) rfl ?_
        refine uu_iinc (v := x5 + 1) dX12_boxOf_120 (k := 5) rfl rfl (by decide) rfl ?_
        refine uu_goto (tgt := 71) dX12_boxOf_123 (by decide) ?_
        refine uu_lv [2, 3, 4, 5, 1, 0] (lv' := [(0, .ref (B + 1079)), (1, .int x1), (2, .int x2), (3, .int x3), (4, .int 0), (5, .int (x5 + 1))]) rfl ?_
        exact hK71 x1 x2 x3 false (x5 + 1) _ _ h
      · replace h := uu_pos c11 h
        refine uu_iconst (v := 1) dX12_boxOf_113 (by decide) ?_
        refine uu_goto (tgt := 118) dX12_boxOf_114 (by decide) ?_
        refine uu_istore dX12_boxOf_118 (by decide) rfl ?_
        refine uu_iinc (v := x5 + 1) dX12_boxOf_120 (k := 5) rfl rfl (by decide) rfl ?_
        refine uu_goto (tgt := 71) dX12_boxOf_123 (by decide) ?_
        refine uu_lv [2, 3, 4, 5, 1, 0] (lv' := [(0, .ref (B + 1079)), (1, .int x1), (2, .int x2), (3, .int x3), (4, .int 1), (5, .int (x5 + 1))]) rfl ?_
        exact hK71 x1 x2 x3 true (x5 + 1) _ _ h
def fn_X12_boxOf_71 (K12 : Int32 → Int32 → uS → Option (uS × Int32)) : Nat → Int32 → Int32 → Int32 → Bool → Int32 → uS → Option (uS × Int32)
  | 0 => fun _ _ _ _ _ _ => none
  | n + 1 => fb_X12_boxOf_71 K12 (fn_X12_boxOf_71 K12 n)
set_option maxRecDepth 100000 in
set_option maxHeartbeats 4000000 in
theorem xn_X12_boxOf_71 {l : Launch} {D : va_G} {A : Nat → ClassId} {B : Nat} {Z : State → Heap → Prop} {vF : Value} (uk : uK B Z vF) {K12 : Int32 → Int32 → uS → Option (uS × Int32)} (hK12 : ∀ (x1 : Int32) (x2 : Int32)  (s : uS) (r : (uS × Int32)), K12 x1 x2 s = some r → GU l D A B Z mX12_boxOf 7 (r.1, some (.int r.2)) s 12 [(0, .ref (B + 1079)), (1, .int x1), (2, .int x2)] []) : ∀ (n : Nat) (x1 : Int32) (x2 : Int32) (x3 : Int32) (b4 : Bool) (x5 : Int32)  (s : uS) (r : (uS × Int32)), fn_X12_boxOf_71 K12 n x1 x2 x3 b4 x5 s = some r → GU l D A B Z mX12_boxOf 7 (r.1, some (.int r.2)) s 71 [(0, .ref (B + 1079)), (1, .int x1), (2, .int x2), (3, .int x3), (4, .int (bI b4)), (5, .int x5)] [] := by
  intro n
  induction n with
  | zero => intro x1 x2 x3 b4 x5 s r h
            cases h
  | succ n ih => intro x1 x2 x3 b4 x5 s r h
                 exact xb_X12_boxOf_71 uk hK12 ih  h
def fb_X12_boxOf_12 (K12 : Int32 → Int32 → uS → Option (uS × Int32)) (x1 : Int32) (x2 : Int32) (s : uS) : Option (uS × Int32) := (iget 20 s 1126 (s.I 1079 89)).bind fun v1 => if v1 ≤ x2 then (some (s, (-1 : Int32))) else ((iget 20 s 1128 (((6 : Int32) * (s.I 1079 89)) + x2)).bind fun v4 => (iget 20 s 1117 x1).bind fun v6 => if v4 = v6 then (fn_X12_boxOf_71 K12 uFu x1 x2 ((20 : Int32) * (((6 : Int32) * (s.I 1079 89)) + x2)) true 0 s) else (fn_X12_boxOf_71 K12 uFu x1 x2 ((20 : Int32) * (((6 : Int32) * (s.I 1079 89)) + x2)) false 0 s))
set_option maxRecDepth 100000 in
set_option maxHeartbeats 4000000 in
theorem xb_X12_boxOf_12 {l : Launch} {D : va_G} {A : Nat → ClassId} {B : Nat} {Z : State → Heap → Prop} {vF : Value} (uk : uK B Z vF) {K12 : Int32 → Int32 → uS → Option (uS × Int32)} (hK12 : ∀ (x1 : Int32) (x2 : Int32)  (s : uS) (r : (uS × Int32)), K12 x1 x2 s = some r → GU l D A B Z mX12_boxOf 7 (r.1, some (.int r.2)) s 12 [(0, .ref (B + 1079)), (1, .int x1), (2, .int x2)] []) {x1 : Int32} {x2 : Int32} {s : uS} {r : (uS × Int32)}  (h : fb_X12_boxOf_12 K12 x1 x2 s = some r) : GU l D A B Z mX12_boxOf 7 (r.1, some (.int r.2)) s 12 [(0, .ref (B + 1079)), (1, .int x1), (2, .int x2)] [] := by
  unfold fb_X12_boxOf_12 at h
  refine uu_iload_n dX12_boxOf_12 rfl (List.mem_of_getElem? (i := 2) rfl) ?_
  refine uu_aload_n dX12_boxOf_13 rfl (List.mem_of_getElem? (i := 0) rfl) ?_
  refine uu_geta (ci := 12) (N := 153) fX12_796 (by decide) so_1079.is (by decide) (c := 1126) (by decide) dX12_boxOf_14 ?_
  refine uu_aload_n dX12_boxOf_17 rfl (List.mem_of_getElem? (i := 0) rfl) ?_
  refine uu_geti (ci := 12) (N := 153) fX12_799 (by decide) so_1079.is (by decide) (by decide) dX12_boxOf_18 ?_
  obtain ⟨v1, e2, h⟩ := uu_ob h
  refine uu_iald e2 dX12_boxOf_21 ?_
  refine uu_icmp_ge (tgt := 139) dX12_boxOf_22 (by decide) (fun c3 => ?_) (fun c3 => ?_)
  · replace h := uu_pos c3 h
    refine uu_iconst (v := -1) dX12_boxOf_139 (by decide) ?_
    have hr := Option.some.inj h
    subst hr
    exact uu_iret rfl dX12_boxOf_140
  · replace h := uu_neg c3 h
    refine uu_bipush (v := 20) dX12_boxOf_25 (by decide) ?_
    refine uu_bipush (v := 6) dX12_boxOf_27 (by decide) ?_
    refine uu_aload_n dX12_boxOf_29 rfl (List.mem_of_getElem? (i := 0) rfl) ?_
    refine uu_geti (ci := 12) (N := 153) fX12_799 (by decide) so_1079.is (by decide) (by decide) dX12_boxOf_30 ?_
    refine uu_imul dX12_boxOf_33 ?_
    refine uu_iload_n dX12_boxOf_34 rfl (List.mem_of_getElem? (i := 2) rfl) ?_
    refine uu_iadd dX12_boxOf_35 ?_
    refine uu_imul dX12_boxOf_36 ?_
    refine uu_istore_n dX12_boxOf_37 rfl (by decide) rfl ?_
    refine uu_aload_n dX12_boxOf_38 rfl (List.mem_of_getElem? (i := 1) rfl) ?_
    refine uu_geta (ci := 12) (N := 153) fX12_802 (by decide) so_1079.is (by decide) (c := 1128) (by decide) dX12_boxOf_39 ?_
    refine uu_bipush (v := 6) dX12_boxOf_42 (by decide) ?_
    refine uu_aload_n dX12_boxOf_44 rfl (List.mem_of_getElem? (i := 1) rfl) ?_
    refine uu_geti (ci := 12) (N := 153) fX12_799 (by decide) so_1079.is (by decide) (by decide) dX12_boxOf_45 ?_
    refine uu_imul dX12_boxOf_48 ?_
    refine uu_iload_n dX12_boxOf_49 rfl (List.mem_of_getElem? (i := 3) rfl) ?_
    refine uu_iadd dX12_boxOf_50 ?_
    obtain ⟨v4, e5, h⟩ := uu_ob h
    refine uu_iald e5 dX12_boxOf_51 ?_
    refine uu_aload_n dX12_boxOf_52 rfl (List.mem_of_getElem? (i := 1) rfl) ?_
    refine uu_geta (ci := 12) (N := 153) fX12_346 (by decide) so_1079.is (by decide) (c := 1117) (by decide) dX12_boxOf_53 ?_
    refine uu_iload_n dX12_boxOf_56 rfl (List.mem_of_getElem? (i := 2) rfl) ?_
    obtain ⟨v6, e7, h⟩ := uu_ob h
    refine uu_iald e7 dX12_boxOf_57 ?_
    refine uu_icmp_ne (tgt := 65) dX12_boxOf_58 (by decide) (fun c8 => ?_) (fun c8 => ?_)
    · replace h := uu_neg c8 h
      refine uu_iconst (v := 0) dX12_boxOf_65 (by decide) ?_
      refine uu_istore dX12_boxOf_66 (by decide) rfl ?_
      refine uu_iconst (v := 0) dX12_boxOf_68 (by decide) ?_
      refine uu_istore dX12_boxOf_69 (by decide) rfl ?_
      refine uu_lv [3, 4, 5, 2, 1, 0] (lv' := [(0, .ref (B + 1079)), (1, .int x1), (2, .int x2), (3, .int ((20 : Int32) * (((6 : Int32) * (s.I 1079 89)) + x2))), (4, .int 0), (5, .int 0)]) rfl ?_
      exact xn_X12_boxOf_71 uk hK12 _ _ _ _ _ _ _ _ h
    · replace h := uu_pos c8 h
      refine uu_iconst (v := 1) dX12_boxOf_61 (by decide) ?_
      refine uu_goto (tgt := 66) dX12_boxOf_62 (by decide) ?_
      refine uu_istore dX12_boxOf_66 (by decide) rfl ?_
      refine uu_iconst (v := 0) dX12_boxOf_68 (by decide) ?_
      refine uu_istore dX12_boxOf_69 (by decide) rfl ?_
      refine uu_lv [3, 4, 5, 2, 1, 0] (lv' := [(0, .ref (B + 1079)), (1, .int x1), (2, .int x2), (3, .int ((20 : Int32) * (((6 : Int32) * (s.I 1079 89)) + x2))), (4, .int 1), (5, .int 0)]) rfl ?_
      exact xn_X12_boxOf_71 uk hK12 _ _ _ _ _ _ _ _ h
def fn_X12_boxOf_12  : Nat → Int32 → Int32 → uS → Option (uS × Int32)
  | 0 => fun _ _ _ => none
  | n + 1 => fb_X12_boxOf_12 (fn_X12_boxOf_12  n)
set_option maxRecDepth 100000 in
set_option maxHeartbeats 4000000 in
theorem xn_X12_boxOf_12 {l : Launch} {D : va_G} {A : Nat → ClassId} {B : Nat} {Z : State → Heap → Prop} {vF : Value} (uk : uK B Z vF)   : ∀ (n : Nat) (x1 : Int32) (x2 : Int32)  (s : uS) (r : (uS × Int32)), fn_X12_boxOf_12  n x1 x2 s = some r → GU l D A B Z mX12_boxOf 7 (r.1, some (.int r.2)) s 12 [(0, .ref (B + 1079)), (1, .int x1), (2, .int x2)] [] := by
  intro n
  induction n with
  | zero => intro x1 x2 s r h
            cases h
  | succ n ih => intro x1 x2 s r h
                 exact xb_X12_boxOf_12 uk ih  h
def fn_X12_boxOf (x1 : Int32) (s : uS) : Option (uS × Int32) := (fn_X12_isInbox x1 s).bind fun r1 => if r1.2 = true then (some (r1.1, (0 : Int32))) else (fn_X12_boxOf_12 uFu x1 1 r1.1)
set_option maxRecDepth 100000 in
set_option maxHeartbeats 4000000 in
theorem xc_X12_boxOf {l : Launch} {D : va_G} {A : Nat → ClassId} {B : Nat} {Z : State → Heap → Prop} {vF : Value} (uk : uK B Z vF) {x1 : Int32} {s : uS} {r : (uS × Int32)}  (h : fn_X12_boxOf x1 s = some r) : CU l D A B Z 7 mX12_boxOf s [.ref (B + 1079), .int x1] (r.1, some (.int r.2)) := by
  unfold fn_X12_boxOf at h
  refine cu_of rfl uk.1.1 (Nat.le_of_ble_eq_true rfl) ?_
  show GU _ _ _ _ _ _ _ _ _ 0 [(0, .ref (B + 1079)), (1, .int x1)] []
  refine uu_aload_n dX12_boxOf_0 rfl (List.mem_of_getElem? (i := 0) rfl) ?_
  refine uu_iload_n dX12_boxOf_1 rfl (List.mem_of_getElem? (i := 1) rfl) ?_
  obtain ⟨r1, e2, h⟩ := uu_ob h
  refine uu_cv (d1 := 6) (k := 1079) (ci := 12) (T := TX12) (N := 153) (As := [.int x1]) (st := []) (st' := [.int (bI r1.2)]) (xc_X12_isInbox uk  e2) so_1079.is (by decide) rfl kX12_isInbox lX12_769 sX12_isInbox (by decide) (Nat.le_of_ble_eq_true rfl) dX12_boxOf_2 rfl ?_
  refine uu_ifb_eq (tgt := 10) dX12_boxOf_5 (by decide) (fun c3 => ?_) (fun c3 => ?_)
  · replace h := uu_neg c3 h
    refine uu_iconst (v := 1) dX12_boxOf_10 (by decide) ?_
    refine uu_istore_n dX12_boxOf_11 rfl (by decide) rfl ?_
    refine uu_lv [1, 2, 0] (lv' := [(0, .ref (B + 1079)), (1, .int x1), (2, .int 1)]) rfl ?_
    exact xn_X12_boxOf_12 uk  _ _ _ _ _ h
  · replace h := uu_pos c3 h
    refine uu_iconst (v := 0) dX12_boxOf_8 (by decide) ?_
    have hr := Option.some.inj h
    subst hr
    exact uu_iret rfl dX12_boxOf_9
abbrev mX12_newBoxes : hM := (yX12_newBoxes, cX12_newBoxes, 3, (some (.int)))
theorem dX12_newBoxes_4 : decode cX12_newBoxes 4 = .ok (.iload_n 2, 1) := by decide +kernel
theorem dX12_newBoxes_5 : decode cX12_newBoxes 5 = .ok (.aload_n 0, 1) := by decide +kernel
theorem dX12_newBoxes_6 : decode cX12_newBoxes 6 = .ok (.getfield 775, 3) := by decide +kernel
theorem dX12_newBoxes_9 : decode cX12_newBoxes 9 = .ok (.if_icmp .ge 30, 3) := by decide +kernel
theorem dX12_newBoxes_39 : decode cX12_newBoxes 39 = .ok (.iload_n 1, 1) := by decide +kernel
theorem dX12_newBoxes_40 : decode cX12_newBoxes 40 = .ok (.ireturn, 1) := by decide +kernel
theorem dX12_newBoxes_12 : decode cX12_newBoxes 12 = .ok (.aload_n 0, 1) := by decide +kernel
theorem dX12_newBoxes_13 : decode cX12_newBoxes 13 = .ok (.aload_n 0, 1) := by decide +kernel
theorem dX12_newBoxes_14 : decode cX12_newBoxes 14 = .ok (.getfield 778, 3) := by decide +kernel
theorem dX12_newBoxes_17 : decode cX12_newBoxes 17 = .ok (.iload_n 2, 1) := by decide +kernel
theorem dX12_newBoxes_18 : decode cX12_newBoxes 18 = .ok (.iaload, 1) := by decide +kernel
theorem kX12_boxOf : h_ml mX12_boxOf 1 := ⟨h_t10 31 rfl rfl, h_t1 16 rfl rfl, ⟨by decide, by decide, by decide +kernel⟩, by decide⟩
theorem lX12_808 : Cond.methodLink RX12 808 mX12_boxOf.1 ∈ lw_g := h_t10 28 rfl rfl
theorem sX12_boxOf : Cond.instanceMethod mX12_boxOf.1 ∈ lw_g ∧ Cond.selects mX12_boxOf.1.cls mX12_boxOf.1 mX12_boxOf.1 ∈ lw_g := ⟨h_t10 30 rfl rfl, h_ins 205 rfl⟩
theorem dX12_newBoxes_19 : decode cX12_newBoxes 19 = .ok (.invokevirtual 808, 3) := by decide +kernel
theorem dX12_newBoxes_22 : decode cX12_newBoxes 22 = .ok (.ifCond .ge 9, 3) := by decide +kernel
theorem dX12_newBoxes_31 : decode cX12_newBoxes 31 = .ok (.iload_n 1, 1) := by decide +kernel
theorem dX12_newBoxes_32 : decode cX12_newBoxes 32 = .ok (.istore_n 1, 1) := by decide +kernel
theorem dX12_newBoxes_33 : decode cX12_newBoxes 33 = .ok (.iinc 2 1, 3) := by decide +kernel
theorem dX12_newBoxes_36 : decode cX12_newBoxes 36 = .ok (.goto (-32), 3) := by decide +kernel
theorem dX12_newBoxes_25 : decode cX12_newBoxes 25 = .ok (.iload_n 1, 1) := by decide +kernel
theorem dX12_newBoxes_26 : decode cX12_newBoxes 26 = .ok (.iconst 1, 1) := by decide +kernel
theorem dX12_newBoxes_27 : decode cX12_newBoxes 27 = .ok (.iadd, 1) := by decide +kernel
theorem dX12_newBoxes_28 : decode cX12_newBoxes 28 = .ok (.goto 4, 3) := by decide +kernel
theorem dX12_newBoxes_0 : decode cX12_newBoxes 0 = .ok (.iconst 0, 1) := by decide +kernel
theorem dX12_newBoxes_1 : decode cX12_newBoxes 1 = .ok (.istore_n 1, 1) := by decide +kernel
theorem dX12_newBoxes_2 : decode cX12_newBoxes 2 = .ok (.iconst 0, 1) := by decide +kernel
theorem dX12_newBoxes_3 : decode cX12_newBoxes 3 = .ok (.istore_n 2, 1) := by decide +kernel
def fb_X12_newBoxes_4 (K4 : Int32 → Int32 → uS → Option (uS × Int32)) (x1 : Int32) (x2 : Int32) (s : uS) : Option (uS × Int32) := if (s.I 1079 97) ≤ x2 then (some (s, x1)) else ((iget 20 s 1138 x2).bind fun v2 => (fn_X12_boxOf v2 s).bind fun r4 => if 0 ≤ r4.2 then (K4 x1 (x2 + 1) r4.1) else (K4 (x1 + 1) (x2 + 1) r4.1))
set_option maxRecDepth 100000 in
set_option maxHeartbeats 4000000 in
theorem xb_X12_newBoxes_4 {l : Launch} {D : va_G} {A : Nat → ClassId} {B : Nat} {Z : State → Heap → Prop} {vF : Value} (uk : uK B Z vF) {K4 : Int32 → Int32 → uS → Option (uS × Int32)} (hK4 : ∀ (x1 : Int32) (x2 : Int32)  (s : uS) (r : (uS × Int32)), K4 x1 x2 s = some r → GU l D A B Z mX12_newBoxes 8 (r.1, some (.int r.2)) s 4 [(0, .ref (B + 1079)), (1, .int x1), (2, .int x2)] []) {x1 : Int32} {x2 : Int32} {s : uS} {r : (uS × Int32)}  (h : fb_X12_newBoxes_4 K4 x1 x2 s = some r) : GU l D A B Z mX12_newBoxes 8 (r.1, some (.int r.2)) s 4 [(0, .ref (B + 1079)), (1, .int x1), (2, .int x2)] [] := by
  unfold fb_X12_newBoxes_4 at h
  refine uu_iload_n dX12_newBoxes_4 rfl (List.mem_of_getElem? (i := 2) rfl) ?_
  refine uu_aload_n dX12_newBoxes_5 rfl (List.mem_of_getElem? (i := 0) rfl) ?_
  refine uu_geti (ci := 12) (N := 153) fX12_775 (by decide) so_1079.is (by decide) (by decide) dX12_newBoxes_6 ?_
  refine uu_icmp_ge (tgt := 39) dX12_newBoxes_9 (by decide) (fun c1 => ?_) (fun c1 => ?_)
  · replace h := uu_pos c1 h
    refine uu_iload_n dX12_newBoxes_39 rfl (List.mem_of_getElem? (i := 1) rfl) ?_
    have hr := Option.some.inj h
    subst hr
    exact uu_iret rfl dX12_newBoxes_40
  · replace h := uu_neg c1 h
    refine uu_aload_n dX12_newBoxes_12 rfl (List.mem_of_getElem? (i := 0) rfl) ?_
    refine uu_aload_n dX12_newBoxes_13 rfl (List.mem_of_getElem? (i := 0) rfl) ?_
    refine uu_geta (ci := 12) (N := 153) fX12_778 (by decide) so_1079.is (by decide) (c := 1138) (by decide) dX12_newBoxes_14 ?_
    refine uu_iload_n dX12_newBoxes_17 rfl (List.mem_of_getElem? (i := 2) rfl) ?_
    obtain ⟨v2, e3, h⟩ := uu_ob h
    refine uu_iald e3 dX12_newBoxes_18 ?_
    obtain ⟨r4, e5, h⟩ := uu_ob h
    refine uu_cv (d1 := 7) (k := 1079) (ci := 12) (T := TX12) (N := 153) (As := [.int v2]) (st := []) (st' := [.int r4.2]) (xc_X12_boxOf uk  e5) so_1079.is (by decide) rfl kX12_boxOf lX12_808 sX12_boxOf (by decide) (Nat.le_of_ble_eq_true rfl) dX12_newBoxes_19 rfl ?_
    refine uu_if_ge (tgt := 31) dX12_newBoxes_22 (by decide) (fun c6 => ?_) (fun c6 => ?_)
    · replace h := uu_pos c6 h
      refine uu_iload_n dX12_newBoxes_31 rfl (List.mem_of_getElem? (i := 1) rfl) ?_
      refine uu_istore_n dX12_newBoxes_32 rfl (by decide) rfl ?_
      refine uu_iinc (v := x2 + 1) dX12_newBoxes_33 (k := 2) rfl rfl (by decide) rfl ?_
      refine uu_goto (tgt := 4) dX12_newBoxes_36 (by decide) ?_
      refine uu_lv [2, 1, 0] (lv' := [(0, .ref (B + 1079)), (1, .int x1), (2, .int (x2 + 1))]) rfl ?_
      exact hK4 x1 (x2 + 1) _ _ h
    · replace h := uu_neg c6 h
      refine uu_iload_n dX12_newBoxes_25 rfl (List.mem_of_getElem? (i := 1) rfl) ?_
      refine uu_iconst (v := 1) dX12_newBoxes_26 (by decide) ?_
      refine uu_iadd dX12_newBoxes_27 ?_
      refine uu_goto (tgt := 32) dX12_newBoxes_28 (by decide) ?_
      refine uu_istore_n dX12_newBoxes_32 rfl (by decide) rfl ?_
      refine uu_iinc (v := x2 + 1) dX12_newBoxes_33 (k := 2) rfl rfl (by decide) rfl ?_
      refine uu_goto (tgt := 4) dX12_newBoxes_36 (by decide) ?_
      refine uu_lv [2, 1, 0] (lv' := [(0, .ref (B + 1079)), (1, .int (x1 + 1)), (2, .int (x2 + 1))]) rfl ?_
      exact hK4 (x1 + 1) (x2 + 1) _ _ h
def fn_X12_newBoxes_4  : Nat → Int32 → Int32 → uS → Option (uS × Int32)
  | 0 => fun _ _ _ => none
  | n + 1 => fb_X12_newBoxes_4 (fn_X12_newBoxes_4  n)
set_option maxRecDepth 100000 in
set_option maxHeartbeats 4000000 in
theorem xn_X12_newBoxes_4 {l : Launch} {D : va_G} {A : Nat → ClassId} {B : Nat} {Z : State → Heap → Prop} {vF : Value} (uk : uK B Z vF)   : ∀ (n : Nat) (x1 : Int32) (x2 : Int32)  (s : uS) (r : (uS × Int32)), fn_X12_newBoxes_4  n x1 x2 s = some r → GU l D A B Z mX12_newBoxes 8 (r.1, some (.int r.2)) s 4 [(0, .ref (B + 1079)), (1, .int x1), (2, .int x2)] [] := by
  intro n
  induction n with
  | zero => intro x1 x2 s r h
            cases h
  | succ n ih => intro x1 x2 s r h
                 exact xb_X12_newBoxes_4 uk ih  h
def fn_X12_newBoxes  (s : uS) : Option (uS × Int32) := fn_X12_newBoxes_4 uFu 0 0 s
set_option maxRecDepth 100000 in
set_option maxHeartbeats 4000000 in
theorem xc_X12_newBoxes {l : Launch} {D : va_G} {A : Nat → ClassId} {B : Nat} {Z : State → Heap → Prop} {vF : Value} (uk : uK B Z vF)  {s : uS} {r : (uS × Int32)}  (h : fn_X12_newBoxes  s = some r) : CU l D A B Z 8 mX12_newBoxes s [.ref (B + 1079)] (r.1, some (.int r.2)) := by
  unfold fn_X12_newBoxes at h
  refine cu_of rfl uk.1.1 (Nat.le_of_ble_eq_true rfl) ?_
  show GU _ _ _ _ _ _ _ _ _ 0 [(0, .ref (B + 1079))] []
  refine uu_iconst (v := 0) dX12_newBoxes_0 (by decide) ?_
  refine uu_istore_n dX12_newBoxes_1 rfl (by decide) rfl ?_
  refine uu_iconst (v := 0) dX12_newBoxes_2 (by decide) ?_
  refine uu_istore_n dX12_newBoxes_3 rfl (by decide) rfl ?_
  refine uu_lv [2, 1, 0] (lv' := [(0, .ref (B + 1079)), (1, .int 0), (2, .int 0)]) rfl ?_
  exact xn_X12_newBoxes_4 uk  _ _ _ _ _ h
