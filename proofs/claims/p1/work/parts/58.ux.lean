abbrev mX12_nameScript : hM := (yX12_nameScript, cX12_nameScript, 5, none)
theorem dX12_nameScript_19 : decode cX12_nameScript 19 = .ok (.iload 4, 2) := by decide +kernel
theorem dX12_nameScript_21 : decode cX12_nameScript 21 = .ok (.aload_n 0, 1) := by decide +kernel
theorem dX12_nameScript_22 : decode cX12_nameScript 22 = .ok (.getfield 1189, 3) := by decide +kernel
theorem dX12_nameScript_25 : decode cX12_nameScript 25 = .ok (.iconst 2, 1) := by decide +kernel
theorem dX12_nameScript_26 : decode cX12_nameScript 26 = .ok (.iload_n 1, 1) := by decide +kernel
theorem dX12_nameScript_27 : decode cX12_nameScript 27 = .ok (.imul, 1) := by decide +kernel
theorem dX12_nameScript_28 : decode cX12_nameScript 28 = .ok (.iload_n 3, 1) := by decide +kernel
theorem dX12_nameScript_29 : decode cX12_nameScript 29 = .ok (.iadd, 1) := by decide +kernel
theorem dX12_nameScript_30 : decode cX12_nameScript 30 = .ok (.iaload, 1) := by decide +kernel
theorem dX12_nameScript_31 : decode cX12_nameScript 31 = .ok (.if_icmp .ge 29, 3) := by decide +kernel
theorem dX12_nameScript_60 : decode cX12_nameScript 60 = .ok (.return_, 1) := by decide +kernel
theorem dX12_nameScript_34 : decode cX12_nameScript 34 = .ok (.aload_n 0, 1) := by decide +kernel
theorem dX12_nameScript_35 : decode cX12_nameScript 35 = .ok (.getfield 1192, 3) := by decide +kernel
theorem dX12_nameScript_38 : decode cX12_nameScript 38 = .ok (.bipush 20, 2) := by decide +kernel
theorem dX12_nameScript_40 : decode cX12_nameScript 40 = .ok (.iload_n 2, 1) := by decide +kernel
theorem dX12_nameScript_41 : decode cX12_nameScript 41 = .ok (.imul, 1) := by decide +kernel
theorem dX12_nameScript_42 : decode cX12_nameScript 42 = .ok (.iload 4, 2) := by decide +kernel
theorem dX12_nameScript_44 : decode cX12_nameScript 44 = .ok (.iadd, 1) := by decide +kernel
theorem dX12_nameScript_45 : decode cX12_nameScript 45 = .ok (.aload_n 0, 1) := by decide +kernel
theorem dX12_nameScript_46 : decode cX12_nameScript 46 = .ok (.iload_n 1, 1) := by decide +kernel
theorem dX12_nameScript_47 : decode cX12_nameScript 47 = .ok (.iload_n 3, 1) := by decide +kernel
theorem dX12_nameScript_48 : decode cX12_nameScript 48 = .ok (.iload 4, 2) := by decide +kernel
theorem dX12_nameScript_50 : decode cX12_nameScript 50 = .ok (.invokevirtual 1195, 3) := by decide +kernel
theorem dX12_nameScript_53 : decode cX12_nameScript 53 = .ok (.iastore, 1) := by decide +kernel
theorem dX12_nameScript_54 : decode cX12_nameScript 54 = .ok (.iinc 4 1, 3) := by decide +kernel
theorem dX12_nameScript_57 : decode cX12_nameScript 57 = .ok (.goto (-38), 3) := by decide +kernel
theorem dX12_nameScript_0 : decode cX12_nameScript 0 = .ok (.aload_n 0, 1) := by decide +kernel
theorem dX12_nameScript_1 : decode cX12_nameScript 1 = .ok (.getfield 1186, 3) := by decide +kernel
theorem dX12_nameScript_4 : decode cX12_nameScript 4 = .ok (.iload_n 2, 1) := by decide +kernel
theorem dX12_nameScript_5 : decode cX12_nameScript 5 = .ok (.aload_n 0, 1) := by decide +kernel
theorem dX12_nameScript_6 : decode cX12_nameScript 6 = .ok (.getfield 1189, 3) := by decide +kernel
theorem dX12_nameScript_9 : decode cX12_nameScript 9 = .ok (.iconst 2, 1) := by decide +kernel
theorem dX12_nameScript_10 : decode cX12_nameScript 10 = .ok (.iload_n 1, 1) := by decide +kernel
theorem dX12_nameScript_11 : decode cX12_nameScript 11 = .ok (.imul, 1) := by decide +kernel
theorem dX12_nameScript_12 : decode cX12_nameScript 12 = .ok (.iload_n 3, 1) := by decide +kernel
theorem dX12_nameScript_13 : decode cX12_nameScript 13 = .ok (.iadd, 1) := by decide +kernel
theorem dX12_nameScript_14 : decode cX12_nameScript 14 = .ok (.iaload, 1) := by decide +kernel
theorem dX12_nameScript_15 : decode cX12_nameScript 15 = .ok (.iastore, 1) := by decide +kernel
theorem dX12_nameScript_16 : decode cX12_nameScript 16 = .ok (.iconst 0, 1) := by decide +kernel
theorem dX12_nameScript_17 : decode cX12_nameScript 17 = .ok (.istore 4, 2) := by decide +kernel
def fb_X12_nameScript_19 (K19 : Int32 → Int32 → Int32 → Int32 → uS → Option uS) (x1 : Int32) (x2 : Int32) (x3 : Int32) (x4 : Int32) (s : uS) : Option uS := (iget 20 s 1164 (((2 : Int32) * x1) + x3)).bind fun v1 => if v1 ≤ x4 then (some s) else ((fn_X12_partText x1 x3 x4 s).bind fun v4 => (iput 20 s 1152 (((20 : Int32) * x2) + x4) v4).bind fun s6 => K19 x1 x2 x3 (x4 + 1) s6)
set_option maxRecDepth 100000 in
set_option maxHeartbeats 4000000 in
theorem xb_X12_nameScript_19 {l : Launch} {D : va_G} {A : Nat → ClassId} {B : Nat} {Z : State → Heap → Prop} {vF : Value} (uk : uK B Z vF) {K19 : Int32 → Int32 → Int32 → Int32 → uS → Option uS} (hK19 : ∀ (x1 : Int32) (x2 : Int32) (x3 : Int32) (x4 : Int32)  (s : uS) (r : uS), K19 x1 x2 x3 x4 s = some r → GU l D A B Z mX12_nameScript 1 (r, none) s 19 [(0, .ref (B + 1079)), (1, .int x1), (2, .int x2), (3, .int x3), (4, .int x4)] []) {x1 : Int32} {x2 : Int32} {x3 : Int32} {x4 : Int32} {s : uS} {r : uS}  (h : fb_X12_nameScript_19 K19 x1 x2 x3 x4 s = some r) : GU l D A B Z mX12_nameScript 1 (r, none) s 19 [(0, .ref (B + 1079)), (1, .int x1), (2, .int x2), (3, .int x3), (4, .int x4)] [] := by
  unfold fb_X12_nameScript_19 at h
  refine uu_iload dX12_nameScript_19 (List.mem_of_getElem? (i := 4) rfl) ?_
  refine uu_aload_n dX12_nameScript_21 rfl (List.mem_of_getElem? (i := 0) rfl) ?_
  refine uu_geta (ci := 12) (N := 153) fX12_1189 (by decide) so_1079.is (by decide) (c := 1164) (by decide) dX12_nameScript_22 ?_
  refine uu_iconst (v := 2) dX12_nameScript_25 (by decide) ?_
  refine uu_iload_n dX12_nameScript_26 rfl (List.mem_of_getElem? (i := 1) rfl) ?_
  refine uu_imul dX12_nameScript_27 ?_
  refine uu_iload_n dX12_nameScript_28 rfl (List.mem_of_getElem? (i := 3) rfl) ?_
  refine uu_iadd dX12_nameScript_29 ?_
  obtain ⟨v1, e2, h⟩ := uu_ob h
  refine uu_iald e2 dX12_nameScript_30 ?_
  refine uu_icmp_ge (tgt := 60) dX12_nameScript_31 (by decide) (fun c3 => ?_) (fun c3 => ?_)
  · replace h := uu_pos c3 h
    have hr := Option.some.inj h
    subst hr
    exact uu_vret rfl dX12_nameScript_60
  · replace h := uu_neg c3 h
    refine uu_aload_n dX12_nameScript_34 rfl (List.mem_of_getElem? (i := 0) rfl) ?_
    refine uu_geta (ci := 12) (N := 153) fX12_1192 (by decide) so_1079.is (by decide) (c := 1152) (by decide) dX12_nameScript_35 ?_
    refine uu_bipush (v := 20) dX12_nameScript_38 (by decide) ?_
    refine uu_iload_n dX12_nameScript_40 rfl (List.mem_of_getElem? (i := 2) rfl) ?_
    refine uu_imul dX12_nameScript_41 ?_
    refine uu_iload dX12_nameScript_42 (List.mem_of_getElem? (i := 4) rfl) ?_
    refine uu_iadd dX12_nameScript_44 ?_
    refine uu_aload_n dX12_nameScript_45 rfl (List.mem_of_getElem? (i := 0) rfl) ?_
    refine uu_iload_n dX12_nameScript_46 rfl (List.mem_of_getElem? (i := 1) rfl) ?_
    refine uu_iload_n dX12_nameScript_47 rfl (List.mem_of_getElem? (i := 3) rfl) ?_
    refine uu_iload dX12_nameScript_48 (List.mem_of_getElem? (i := 4) rfl) ?_
    obtain ⟨v4, e5, h⟩ := uu_ob h
    refine uu_cv (d1 := 0) (k := 1079) (ci := 12) (T := TX12) (N := 153) (As := [.int x1, .int x3, .int x4]) (st := [.int (((20 : Int32) * x2) + x4), .ref (B + 1152)]) (st' := [.int v4, .int (((20 : Int32) * x2) + x4), .ref (B + 1152)]) (xc_X12_partText uk  e5) so_1079.is (by decide) rfl kX12_partText lX12_1195 sX12_partText (by decide) (Nat.le_of_ble_eq_true rfl) dX12_nameScript_50 rfl ?_
    obtain ⟨s6, e7, h⟩ := uu_ob h
    refine uu_iast e7 dX12_nameScript_53 ?_
    refine uu_iinc (v := x4 + 1) dX12_nameScript_54 (k := 4) rfl rfl (by decide) rfl ?_
    refine uu_goto (tgt := 19) dX12_nameScript_57 (by decide) ?_
    refine uu_lv [1, 2, 3, 4, 0] (lv' := [(0, .ref (B + 1079)), (1, .int x1), (2, .int x2), (3, .int x3), (4, .int (x4 + 1))]) rfl ?_
    exact hK19 x1 x2 x3 (x4 + 1) _ _ h
def fn_X12_nameScript_19  : Nat → Int32 → Int32 → Int32 → Int32 → uS → Option uS
  | 0 => fun _ _ _ _ _ => none
  | n + 1 => fb_X12_nameScript_19 (fn_X12_nameScript_19  n)
set_option maxRecDepth 100000 in
set_option maxHeartbeats 4000000 in
theorem xn_X12_nameScript_19 {l : Launch} {D : va_G} {A : Nat → ClassId} {B : Nat} {Z : State → Heap → Prop} {vF : Value} (uk : uK B Z vF)   : ∀ (n : Nat) (x1 : Int32) (x2 : Int32) (x3 : Int32) (x4 : Int32)  (s : uS) (r : uS), fn_X12_nameScript_19  n x1 x2 x3 x4 s = some r → GU l D A B Z mX12_nameScript 1 (r, none) s 19 [(0, .ref (B + 1079)), (1, .int x1), (2, .int x2), (3, .int x3), (4, .int x4)] [] := by
  intro n
  induction n with
  | zero => intro x1 x2 x3 x4 s r h
            cases h
  | succ n ih => intro x1 x2 x3 x4 s r h
                 exact xb_X12_nameScript_19 uk ih  h
def fn_X12_nameScript (x1 : Int32) (x2 : Int32) (x3 : Int32) (s : uS) : Option uS := (iget 20 s 1164 (((2 : Int32) * x1) + x3)).bind fun v1 => (iput 20 s 1153 x2 v1).bind fun s3 => fn_X12_nameScript_19 uFu x1 x2 x3 0 s3
set_option maxRecDepth 100000 in
set_option maxHeartbeats 4000000 in
theorem xc_X12_nameScript {l : Launch} {D : va_G} {A : Nat → ClassId} {B : Nat} {Z : State → Heap → Prop} {vF : Value} (uk : uK B Z vF) {x1 : Int32} {x2 : Int32} {x3 : Int32} {s : uS} {r : uS}  (h : fn_X12_nameScript x1 x2 x3 s = some r) : CU l D A B Z 1 mX12_nameScript s [.ref (B + 1079), .int x1, .int x2, .int x3] (r, none) := by
  unfold fn_X12_nameScript at h
  refine cu_of rfl uk.1.1 (Nat.le_of_ble_eq_true rfl) ?_
  show GU _ _ _ _ _ _ _ _ _ 0 [(0, .ref (B + 1079)), (1, .int x1), (2, .int x2), (3, .int x3)] []
  refine uu_aload_n dX12_nameScript_0 rfl (List.mem_of_getElem? (i := 0) rfl) ?_
  refine uu_geta (ci := 12) (N := 153) fX12_1186 (by decide) so_1079.is (by decide) (c := 1153) (by decide) dX12_nameScript_1 ?_
  refine uu_iload_n dX12_nameScript_4 rfl (List.mem_of_getElem? (i := 2) rfl) ?_
  refine uu_aload_n dX12_nameScript_5 rfl (List.mem_of_getElem? (i := 0) rfl) ?_
  refine uu_geta (ci := 12) (N := 153) fX12_1189 (by decide) so_1079.is (by decide) (c := 1164) (by decide) dX12_nameScript_6 ?_
  refine uu_iconst (v := 2) dX12_nameScript_9 (by decide) ?_
  refine uu_iload_n dX12_nameScript_10 rfl (List.mem_of_getElem? (i := 1) rfl) ?_
  refine uu_imul dX12_nameScript_11 ?_
  refine uu_iload_n dX12_nameScript_12 rfl (List.mem_of_getElem? (i := 3) rfl) ?_
  refine uu_iadd dX12_nameScript_13 ?_
  obtain ⟨v1, e2, h⟩ := uu_ob h
  refine uu_iald e2 dX12_nameScript_14 ?_
  obtain ⟨s3, e4, h⟩ := uu_ob h
  refine uu_iast e4 dX12_nameScript_15 ?_
  refine uu_iconst (v := 0) dX12_nameScript_16 (by decide) ?_
  refine uu_istore dX12_nameScript_17 (by decide) rfl ?_
  refine uu_lv [1, 2, 3, 4, 0] (lv' := [(0, .ref (B + 1079)), (1, .int x1), (2, .int x2), (3, .int x3), (4, .int 0)]) rfl ?_
  exact xn_X12_nameScript_19 uk  _ _ _ _ _ _ _ h
abbrev mX12_sizeOfPart : hM := (yX12_sizeOfPart, cX12_sizeOfPart, 2, (some (.int)))
theorem dX12_sizeOfPart_0 : decode cX12_sizeOfPart 0 = .ok (.aload_n 0, 1) := by decide +kernel
theorem dX12_sizeOfPart_1 : decode cX12_sizeOfPart 1 = .ok (.getfield 1210, 3) := by decide +kernel
theorem dX12_sizeOfPart_4 : decode cX12_sizeOfPart 4 = .ok (.iload_n 1, 1) := by decide +kernel
theorem dX12_sizeOfPart_5 : decode cX12_sizeOfPart 5 = .ok (.iaload, 1) := by decide +kernel
theorem dX12_sizeOfPart_6 : decode cX12_sizeOfPart 6 = .ok (.iconst 2, 1) := by decide +kernel
theorem dX12_sizeOfPart_7 : decode cX12_sizeOfPart 7 = .ok (.if_icmp .ne 12, 3) := by decide +kernel
theorem dX12_sizeOfPart_19 : decode cX12_sizeOfPart 19 = .ok (.aload_n 0, 1) := by decide +kernel
theorem dX12_sizeOfPart_20 : decode cX12_sizeOfPart 20 = .ok (.getfield 1189, 3) := by decide +kernel
theorem dX12_sizeOfPart_23 : decode cX12_sizeOfPart 23 = .ok (.iconst 2, 1) := by decide +kernel
theorem dX12_sizeOfPart_24 : decode cX12_sizeOfPart 24 = .ok (.iload_n 1, 1) := by decide +kernel
theorem dX12_sizeOfPart_25 : decode cX12_sizeOfPart 25 = .ok (.imul, 1) := by decide +kernel
theorem dX12_sizeOfPart_26 : decode cX12_sizeOfPart 26 = .ok (.aload_n 0, 1) := by decide +kernel
theorem dX12_sizeOfPart_27 : decode cX12_sizeOfPart 27 = .ok (.getfield 1210, 3) := by decide +kernel
theorem dX12_sizeOfPart_30 : decode cX12_sizeOfPart 30 = .ok (.iload_n 1, 1) := by decide +kernel
theorem dX12_sizeOfPart_31 : decode cX12_sizeOfPart 31 = .ok (.iaload, 1) := by decide +kernel
theorem dX12_sizeOfPart_32 : decode cX12_sizeOfPart 32 = .ok (.iadd, 1) := by decide +kernel
theorem dX12_sizeOfPart_33 : decode cX12_sizeOfPart 33 = .ok (.iaload, 1) := by decide +kernel
theorem dX12_sizeOfPart_34 : decode cX12_sizeOfPart 34 = .ok (.ireturn, 1) := by decide +kernel
theorem dX12_sizeOfPart_10 : decode cX12_sizeOfPart 10 = .ok (.aload_n 0, 1) := by decide +kernel
theorem dX12_sizeOfPart_11 : decode cX12_sizeOfPart 11 = .ok (.getfield 1213, 3) := by decide +kernel
theorem dX12_sizeOfPart_14 : decode cX12_sizeOfPart 14 = .ok (.iload_n 1, 1) := by decide +kernel
theorem dX12_sizeOfPart_15 : decode cX12_sizeOfPart 15 = .ok (.iaload, 1) := by decide +kernel
theorem dX12_sizeOfPart_16 : decode cX12_sizeOfPart 16 = .ok (.goto 18, 3) := by decide +kernel
def fn_X12_sizeOfPart (x1 : Int32) (s : uS) : Option Int32 := (iget 20 s 1160 x1).bind fun v1 => if v1 = 2 then ((iget 20 s 1165 x1).bind fun v8 => some v8) else ((iget 20 s 1160 x1).bind fun v4 => (iget 20 s 1164 (((2 : Int32) * x1) + v4)).bind fun v6 => some v6)
set_option maxRecDepth 100000 in
set_option maxHeartbeats 4000000 in
theorem xc_X12_sizeOfPart {l : Launch} {D : va_G} {A : Nat → ClassId} {B : Nat} {Z : State → Heap → Prop} {vF : Value} (uk : uK B Z vF) {x1 : Int32} {s : uS} {r : Int32}  (h : fn_X12_sizeOfPart x1 s = some r) : CU l D A B Z 0 mX12_sizeOfPart s [.ref (B + 1079), .int x1] (s, some (.int r)) := by
  unfold fn_X12_sizeOfPart at h
  refine cu_of rfl uk.1.1 (Nat.le_of_ble_eq_true rfl) ?_
  show GU _ _ _ _ _ _ _ _ _ 0 [(0, .ref (B + 1079)), (1, .int x1)] []
  refine uu_aload_n dX12_sizeOfPart_0 rfl (List.mem_of_getElem? (i := 0) rfl) ?_
  refine uu_geta (ci := 12) (N := 153) fX12_1210 (by decide) so_1079.is (by decide) (c := 1160) (by decide) dX12_sizeOfPart_1 ?_
  refine uu_iload_n dX12_sizeOfPart_4 rfl (List.mem_of_getElem? (i := 1) rfl) ?_
  obtain ⟨v1, e2, h⟩ := uu_ob h
  refine uu_iald e2 dX12_sizeOfPart_5 ?_
  refine uu_iconst (v := 2) dX12_sizeOfPart_6 (by decide) ?_
  refine uu_icmp_ne (tgt := 19) dX12_sizeOfPart_7 (by decide) (fun c3 => ?_) (fun c3 => ?_)
  · replace h := uu_neg c3 h
    refine uu_aload_n dX12_sizeOfPart_19 rfl (List.mem_of_getElem? (i := 0) rfl) ?_
    refine uu_geta (ci := 12) (N := 153) fX12_1189 (by decide) so_1079.is (by decide) (c := 1164) (by decide) dX12_sizeOfPart_20 ?_
    refine uu_iconst (v := 2) dX12_sizeOfPart_23 (by decide) ?_
    refine uu_iload_n dX12_sizeOfPart_24 rfl (List.mem_of_getElem? (i := 1) rfl) ?_
    refine uu_imul dX12_sizeOfPart_25 ?_
    refine uu_aload_n dX12_sizeOfPart_26 rfl (List.mem_of_getElem? (i := 0) rfl) ?_
    refine uu_geta (ci := 12) (N := 153) fX12_1210 (by decide) so_1079.is (by decide) (c := 1160) (by decide) dX12_sizeOfPart_27 ?_
    refine uu_iload_n dX12_sizeOfPart_30 rfl (List.mem_of_getElem? (i := 1) rfl) ?_
    obtain ⟨v4, e5, h⟩ := uu_ob h
    refine uu_iald e5 dX12_sizeOfPart_31 ?_
    refine uu_iadd dX12_sizeOfPart_32 ?_
    obtain ⟨v6, e7, h⟩ := uu_ob h
    refine uu_iald e7 dX12_sizeOfPart_33 ?_
    have hr := Option.some.inj h
    subst hr
    exact uu_iret rfl dX12_sizeOfPart_34
  · replace h := uu_pos c3 h
    refine uu_aload_n dX12_sizeOfPart_10 rfl (List.mem_of_getElem? (i := 0) rfl) ?_
    refine uu_geta (ci := 12) (N := 153) fX12_1213 (by decide) so_1079.is (by decide) (c := 1165) (by decide) dX12_sizeOfPart_11 ?_
    refine uu_iload_n dX12_sizeOfPart_14 rfl (List.mem_of_getElem? (i := 1) rfl) ?_
    obtain ⟨v8, e9, h⟩ := uu_ob h
    refine uu_iald e9 dX12_sizeOfPart_15 ?_
    refine uu_goto (tgt := 34) dX12_sizeOfPart_16 (by decide) ?_
    have hr := Option.some.inj h
    subst hr
    exact uu_iret rfl dX12_sizeOfPart_34
abbrev mX12_partByte : hM := (yX12_partByte, cX12_partByte, 5, none)
theorem dX12_partByte_0 : decode cX12_partByte 0 = .ok (.aload_n 0, 1) := by decide +kernel
theorem dX12_partByte_1 : decode cX12_partByte 1 = .ok (.getfield 1210, 3) := by decide +kernel
theorem dX12_partByte_4 : decode cX12_partByte 4 = .ok (.iload_n 1, 1) := by decide +kernel
theorem dX12_partByte_5 : decode cX12_partByte 5 = .ok (.iaload, 1) := by decide +kernel
theorem dX12_partByte_6 : decode cX12_partByte 6 = .ok (.istore_n 3, 1) := by decide +kernel
theorem dX12_partByte_7 : decode cX12_partByte 7 = .ok (.iload_n 3, 1) := by decide +kernel
theorem dX12_partByte_8 : decode cX12_partByte 8 = .ok (.iconst 2, 1) := by decide +kernel
theorem dX12_partByte_9 : decode cX12_partByte 9 = .ok (.if_icmp .ne 18, 3) := by decide +kernel
theorem dX12_partByte_27 : decode cX12_partByte 27 = .ok (.sipush 2000, 3) := by decide +kernel
theorem dX12_partByte_30 : decode cX12_partByte 30 = .ok (.iload_n 3, 1) := by decide +kernel
theorem dX12_partByte_31 : decode cX12_partByte 31 = .ok (.imul, 1) := by decide +kernel
theorem dX12_partByte_32 : decode cX12_partByte 32 = .ok (.aload_n 0, 1) := by decide +kernel
theorem dX12_partByte_33 : decode cX12_partByte 33 = .ok (.getfield 1189, 3) := by decide +kernel
theorem dX12_partByte_36 : decode cX12_partByte 36 = .ok (.iconst 2, 1) := by decide +kernel
theorem dX12_partByte_37 : decode cX12_partByte 37 = .ok (.iload_n 1, 1) := by decide +kernel
theorem dX12_partByte_38 : decode cX12_partByte 38 = .ok (.imul, 1) := by decide +kernel
theorem dX12_partByte_39 : decode cX12_partByte 39 = .ok (.iload_n 3, 1) := by decide +kernel
theorem dX12_partByte_40 : decode cX12_partByte 40 = .ok (.iadd, 1) := by decide +kernel
theorem dX12_partByte_41 : decode cX12_partByte 41 = .ok (.iaload, 1) := by decide +kernel
theorem dX12_partByte_42 : decode cX12_partByte 42 = .ok (.iadd, 1) := by decide +kernel
theorem dX12_partByte_43 : decode cX12_partByte 43 = .ok (.istore 4, 2) := by decide +kernel
theorem dX12_partByte_45 : decode cX12_partByte 45 = .ok (.aload_n 0, 1) := by decide +kernel
theorem dX12_partByte_46 : decode cX12_partByte 46 = .ok (.getfield 1189, 3) := by decide +kernel
theorem dX12_partByte_49 : decode cX12_partByte 49 = .ok (.iconst 2, 1) := by decide +kernel
theorem dX12_partByte_50 : decode cX12_partByte 50 = .ok (.iload_n 1, 1) := by decide +kernel
theorem dX12_partByte_51 : decode cX12_partByte 51 = .ok (.imul, 1) := by decide +kernel
theorem dX12_partByte_52 : decode cX12_partByte 52 = .ok (.iload_n 3, 1) := by decide +kernel
theorem dX12_partByte_53 : decode cX12_partByte 53 = .ok (.iadd, 1) := by decide +kernel
theorem dX12_partByte_54 : decode cX12_partByte 54 = .ok (.aload_n 0, 1) := by decide +kernel
theorem dX12_partByte_55 : decode cX12_partByte 55 = .ok (.getfield 1189, 3) := by decide +kernel
theorem dX12_partByte_58 : decode cX12_partByte 58 = .ok (.iconst 2, 1) := by decide +kernel
theorem dX12_partByte_59 : decode cX12_partByte 59 = .ok (.iload_n 1, 1) := by decide +kernel
theorem dX12_partByte_60 : decode cX12_partByte 60 = .ok (.imul, 1) := by decide +kernel
theorem dX12_partByte_61 : decode cX12_partByte 61 = .ok (.iload_n 3, 1) := by decide +kernel
theorem dX12_partByte_62 : decode cX12_partByte 62 = .ok (.iadd, 1) := by decide +kernel
theorem dX12_partByte_63 : decode cX12_partByte 63 = .ok (.iaload, 1) := by decide +kernel
theorem dX12_partByte_64 : decode cX12_partByte 64 = .ok (.iconst 1, 1) := by decide +kernel
theorem dX12_partByte_65 : decode cX12_partByte 65 = .ok (.iadd, 1) := by decide +kernel
theorem dX12_partByte_66 : decode cX12_partByte 66 = .ok (.iastore, 1) := by decide +kernel
theorem dX12_partByte_67 : decode cX12_partByte 67 = .ok (.iload_n 1, 1) := by decide +kernel
theorem dX12_partByte_68 : decode cX12_partByte 68 = .ok (.tableswitch 55 0 2 #[28, 37, 46], 28) := by decide +kernel
theorem dX12_partByte_96 : decode cX12_partByte 96 = .ok (.aload_n 0, 1) := by decide +kernel
theorem dX12_partByte_97 : decode cX12_partByte 97 = .ok (.getfield 1198, 3) := by decide +kernel
theorem dX12_partByte_100 : decode cX12_partByte 100 = .ok (.iload 4, 2) := by decide +kernel
theorem dX12_partByte_102 : decode cX12_partByte 102 = .ok (.iload_n 2, 1) := by decide +kernel
theorem dX12_partByte_103 : decode cX12_partByte 103 = .ok (.iastore, 1) := by decide +kernel
theorem dX12_partByte_104 : decode cX12_partByte 104 = .ok (.return_, 1) := by decide +kernel
theorem dX12_partByte_105 : decode cX12_partByte 105 = .ok (.aload_n 0, 1) := by decide +kernel
theorem dX12_partByte_106 : decode cX12_partByte 106 = .ok (.getfield 1201, 3) := by decide +kernel
theorem dX12_partByte_109 : decode cX12_partByte 109 = .ok (.iload 4, 2) := by decide +kernel
theorem dX12_partByte_111 : decode cX12_partByte 111 = .ok (.iload_n 2, 1) := by decide +kernel
theorem dX12_partByte_112 : decode cX12_partByte 112 = .ok (.iastore, 1) := by decide +kernel
theorem dX12_partByte_113 : decode cX12_partByte 113 = .ok (.return_, 1) := by decide +kernel
theorem dX12_partByte_114 : decode cX12_partByte 114 = .ok (.aload_n 0, 1) := by decide +kernel
theorem dX12_partByte_115 : decode cX12_partByte 115 = .ok (.getfield 1204, 3) := by decide +kernel
theorem dX12_partByte_118 : decode cX12_partByte 118 = .ok (.iload 4, 2) := by decide +kernel
theorem dX12_partByte_120 : decode cX12_partByte 120 = .ok (.iload_n 2, 1) := by decide +kernel
theorem dX12_partByte_121 : decode cX12_partByte 121 = .ok (.iastore, 1) := by decide +kernel
theorem dX12_partByte_122 : decode cX12_partByte 122 = .ok (.return_, 1) := by decide +kernel
theorem dX12_partByte_123 : decode cX12_partByte 123 = .ok (.aload_n 0, 1) := by decide +kernel
theorem dX12_partByte_124 : decode cX12_partByte 124 = .ok (.getfield 1207, 3) := by decide +kernel
theorem dX12_partByte_127 : decode cX12_partByte 127 = .ok (.iload 4, 2) := by decide +kernel
theorem dX12_partByte_129 : decode cX12_partByte 129 = .ok (.iload_n 2, 1) := by decide +kernel
theorem dX12_partByte_130 : decode cX12_partByte 130 = .ok (.iastore, 1) := by decide +kernel
theorem dX12_partByte_131 : decode cX12_partByte 131 = .ok (.return_, 1) := by decide +kernel
theorem dX12_partByte_12 : decode cX12_partByte 12 = .ok (.aload_n 0, 1) := by decide +kernel
theorem dX12_partByte_13 : decode cX12_partByte 13 = .ok (.getfield 1213, 3) := by decide +kernel
theorem dX12_partByte_16 : decode cX12_partByte 16 = .ok (.iload_n 1, 1) := by decide +kernel
theorem dX12_partByte_17 : decode cX12_partByte 17 = .ok (.aload_n 0, 1) := by decide +kernel
theorem dX12_partByte_18 : decode cX12_partByte 18 = .ok (.getfield 1213, 3) := by decide +kernel
theorem dX12_partByte_21 : decode cX12_partByte 21 = .ok (.iload_n 1, 1) := by decide +kernel
theorem dX12_partByte_22 : decode cX12_partByte 22 = .ok (.iaload, 1) := by decide +kernel
theorem dX12_partByte_23 : decode cX12_partByte 23 = .ok (.iconst 1, 1) := by decide +kernel
theorem dX12_partByte_24 : decode cX12_partByte 24 = .ok (.iadd, 1) := by decide +kernel
theorem dX12_partByte_25 : decode cX12_partByte 25 = .ok (.iastore, 1) := by decide +kernel
theorem dX12_partByte_26 : decode cX12_partByte 26 = .ok (.return_, 1) := by decide +kernel
def fn_X12_partByte (x1 : Int32) (x2 : Int32) (s : uS) : Option uS := (iget 20 s 1160 x1).bind fun v1 => if v1 = 2 then ((iget 20 s 1165 x1).bind fun v18 => (iput 20 s 1165 x1 (v18 + 1)).bind fun s20 => some s20) else ((iget 20 s 1164 (((2 : Int32) * x1) + v1)).bind fun v4 => (iget 20 s 1164 (((2 : Int32) * x1) + v1)).bind fun v6 => (iput 20 s 1164 (((2 : Int32) * x1) + v1) (v6 + 1)).bind fun s8 => if x1 = 0 then ((iput 20 s8 1167 (((2000 : Int32) * v1) + v4) x2).bind fun s10 => some s10) else (if x1 = 1 then ((iput 20 s8 1168 (((2000 : Int32) * v1) + v4) x2).bind fun s12 => some s12) else (if x1 = 2 then ((iput 20 s8 1169 (((2000 : Int32) * v1) + v4) x2).bind fun s14 => some s14) else ((iput 20 s8 1170 (((2000 : Int32) * v1) + v4) x2).bind fun s16 => some s16))))
set_option maxRecDepth 100000 in
set_option maxHeartbeats 4000000 in
theorem xc_X12_partByte {l : Launch} {D : va_G} {A : Nat → ClassId} {B : Nat} {Z : State → Heap → Prop} {vF : Value} (uk : uK B Z vF) {x1 : Int32} {x2 : Int32} {s : uS} {r : uS}  (h : fn_X12_partByte x1 x2 s = some r) : CU l D A B Z 0 mX12_partByte s [.ref (B + 1079), .int x1, .int x2] (r, none) := by
  unfold fn_X12_partByte at h
  refine cu_of rfl uk.1.1 (Nat.le_of_ble_eq_true rfl) ?_
  show GU _ _ _ _ _ _ _ _ _ 0 [(0, .ref (B + 1079)), (1, .int x1), (2, .int x2)] []
  refine uu_aload_n dX12_partByte_0 rfl (List.mem_of_getElem? (i := 0) rfl) ?_
  refine uu_geta (ci := 12) (N := 153) fX12_1210 (by decide) so_1079.is (by decide) (c := 1160) (by decide) dX12_partByte_1 ?_
  refine uu_iload_n dX12_partByte_4 rfl (List.mem_of_getElem? (i := 1) rfl) ?_
  obtain ⟨v1, e2, h⟩ := uu_ob h
  refine uu_iald e2 dX12_partByte_5 ?_
  refine uu_istore_n dX12_partByte_6 rfl (by decide) rfl ?_
  refine uu_iload_n dX12_partByte_7 rfl (List.mem_of_getElem? (i := 0) rfl) ?_
  refine uu_iconst (v := 2) dX12_partByte_8 (by decide) ?_
  refine uu_icmp_ne (tgt := 27) dX12_partByte_9 (by decide) (fun c3 => ?_) (fun c3 => ?_)
  · replace h := uu_neg c3 h
    refine uu_sipush (v := 2000) dX12_partByte_27 (by decide) ?_
    refine uu_iload_n dX12_partByte_30 rfl (List.mem_of_getElem? (i := 0) rfl) ?_
    refine uu_imul dX12_partByte_31 ?_
    refine uu_aload_n dX12_partByte_32 rfl (List.mem_of_getElem? (i := 1) rfl) ?_
    refine uu_geta (ci := 12) (N := 153) fX12_1189 (by decide) so_1079.is (by decide) (c := 1164) (by decide) dX12_partByte_33 ?_
    refine uu_iconst (v := 2) dX12_partByte_36 (by decide) ?_
    refine uu_iload_n dX12_partByte_37 rfl (List.mem_of_getElem? (i := 2) rfl) ?_
    refine uu_imul dX12_partByte_38 ?_
    refine uu_iload_n dX12_partByte_39 rfl (List.mem_of_getElem? (i := 0) rfl) ?_
    refine uu_iadd dX12_partByte_40 ?_
    obtain ⟨v4, e5, h⟩ := uu_ob h
    refine uu_iald e5 dX12_partByte_41 ?_
    refine uu_iadd dX12_partByte_42 ?_
    refine uu_istore dX12_partByte_43 (by decide) rfl ?_
    refine uu_aload_n dX12_partByte_45 rfl (List.mem_of_getElem? (i := 2) rfl) ?_
    refine uu_geta (ci := 12) (N := 153) fX12_1189 (by decide) so_1079.is (by decide) (c := 1164) (by decide) dX12_partByte_46 ?_
    refine uu_iconst (v := 2) dX12_partByte_49 (by decide) ?_
    refine uu_iload_n dX12_partByte_50 rfl (List.mem_of_getElem? (i := 3) rfl) ?_
    refine uu_imul dX12_partByte_51 ?_
    refine uu_iload_n dX12_partByte_52 rfl (List.mem_of_getElem? (i := 1) rfl) ?_
    refine uu_iadd dX12_partByte_53 ?_
    refine uu_aload_n dX12_partByte_54 rfl (List.mem_of_getElem? (i := 2) rfl) ?_
    refine uu_geta (ci := 12) (N := 153) fX12_1189 (by decide) so_1079.is (by decide) (c := 1164) (by decide) dX12_partByte_55 ?_
    refine uu_iconst (v := 2) dX12_partByte_58 (by decide) ?_
    refine uu_iload_n dX12_partByte_59 rfl (List.mem_of_getElem? (i := 3) rfl) ?_
    refine uu_imul dX12_partByte_60 ?_
    refine uu_iload_n dX12_partByte_61 rfl (List.mem_of_getElem? (i := 1) rfl) ?_
    refine uu_iadd dX12_partByte_62 ?_
    obtain ⟨v6, e7, h⟩ := uu_ob h
    refine uu_iald e7 dX12_partByte_63 ?_
    refine uu_iconst (v := 1) dX12_partByte_64 (by decide) ?_
    refine uu_iadd dX12_partByte_65 ?_
    obtain ⟨s8, e9, h⟩ := uu_ob h
    refine uu_iast e9 dX12_partByte_66 ?_
    refine uu_iload_n dX12_partByte_67 rfl (List.mem_of_getElem? (i := 3) rfl) ?_
    by_cases c68_0 : x1 = 0
    · replace h := uu_pos c68_0 h
      refine uu_tabE (tgt := 96) (off := 28) (v := 0) dX12_partByte_68 c68_0 (by decide) (by decide) rfl (by decide) ?_
      refine uu_aload_n dX12_partByte_96 rfl (List.mem_of_getElem? (i := 2) rfl) ?_
      refine uu_geta (ci := 12) (N := 153) fX12_1198 (by decide) so_1079.is (by decide) (c := 1167) (by decide) dX12_partByte_97 ?_
      refine uu_iload dX12_partByte_100 (List.mem_of_getElem? (i := 0) rfl) ?_
      refine uu_iload_n dX12_partByte_102 rfl (List.mem_of_getElem? (i := 4) rfl) ?_
      obtain ⟨s10, e11, h⟩ := uu_ob h
      refine uu_iast e11 dX12_partByte_103 ?_
      have hr := Option.some.inj h
      subst hr
      exact uu_vret rfl dX12_partByte_104
    replace h := uu_neg c68_0 h
    by_cases c68_1 : x1 = 1
    · replace h := uu_pos c68_1 h
      refine uu_tabE (tgt := 105) (off := 37) (v := 1) dX12_partByte_68 c68_1 (by decide) (by decide) rfl (by decide) ?_
      refine uu_aload_n dX12_partByte_105 rfl (List.mem_of_getElem? (i := 2) rfl) ?_
      refine uu_geta (ci := 12) (N := 153) fX12_1201 (by decide) so_1079.is (by decide) (c := 1168) (by decide) dX12_partByte_106 ?_
      refine uu_iload dX12_partByte_109 (List.mem_of_getElem? (i := 0) rfl) ?_
      refine uu_iload_n dX12_partByte_111 rfl (List.mem_of_getElem? (i := 4) rfl) ?_
      obtain ⟨s12, e13, h⟩ := uu_ob h
      refine uu_iast e13 dX12_partByte_112 ?_
      have hr := Option.some.inj h
      subst hr
      exact uu_vret rfl dX12_partByte_113
    replace h := uu_neg c68_1 h
    by_cases c68_2 : x1 = 2
    · replace h := uu_pos c68_2 h
      refine uu_tabE (tgt := 114) (off := 46) (v := 2) dX12_partByte_68 c68_2 (by decide) (by decide) rfl (by decide) ?_
      refine uu_aload_n dX12_partByte_114 rfl (List.mem_of_getElem? (i := 2) rfl) ?_
      refine uu_geta (ci := 12) (N := 153) fX12_1204 (by decide) so_1079.is (by decide) (c := 1169) (by decide) dX12_partByte_115 ?_
      refine uu_iload dX12_partByte_118 (List.mem_of_getElem? (i := 0) rfl) ?_
      refine uu_iload_n dX12_partByte_120 rfl (List.mem_of_getElem? (i := 4) rfl) ?_
      obtain ⟨s14, e15, h⟩ := uu_ob h
      refine uu_iast e15 dX12_partByte_121 ?_
      have hr := Option.some.inj h
      subst hr
      exact uu_vret rfl dX12_partByte_122
    replace h := uu_neg c68_2 h
    have cx68 : (x1).toInt < 0 ∨ 2 < (x1).toInt := by
      refine Decidable.byContradiction fun q => ?_
      rcases (show (x1).toInt = 0 ∨ (x1).toInt = 1 ∨ (x1).toInt = 2 by omega) with q | q | q
      · exact c68_0 (sw_eq q (by decide))
      · exact c68_1 (sw_eq q (by decide))
      · exact c68_2 (sw_eq q (by decide))
    refine uu_tableOut (tgt := 123) dX12_partByte_68 cx68 (by decide) ?_
    refine uu_aload_n dX12_partByte_123 rfl (List.mem_of_getElem? (i := 2) rfl) ?_
    refine uu_geta (ci := 12) (N := 153) fX12_1207 (by decide) so_1079.is (by decide) (c := 1170) (by decide) dX12_partByte_124 ?_
    refine uu_iload dX12_partByte_127 (List.mem_of_getElem? (i := 0) rfl) ?_
    refine uu_iload_n dX12_partByte_129 rfl (List.mem_of_getElem? (i := 4) rfl) ?_
    obtain ⟨s16, e17, h⟩ := uu_ob h
    refine uu_iast e17 dX12_partByte_130 ?_
    have hr := Option.some.inj h
    subst hr
    exact uu_vret rfl dX12_partByte_131
  · replace h := uu_pos c3 h
    refine uu_aload_n dX12_partByte_12 rfl (List.mem_of_getElem? (i := 1) rfl) ?_
    refine uu_geta (ci := 12) (N := 153) fX12_1213 (by decide) so_1079.is (by decide) (c := 1165) (by decide) dX12_partByte_13 ?_
    refine uu_iload_n dX12_partByte_16 rfl (List.mem_of_getElem? (i := 2) rfl) ?_
    refine uu_aload_n dX12_partByte_17 rfl (List.mem_of_getElem? (i := 1) rfl) ?_
    refine uu_geta (ci := 12) (N := 153) fX12_1213 (by decide) so_1079.is (by decide) (c := 1165) (by decide) dX12_partByte_18 ?_
    refine uu_iload_n dX12_partByte_21 rfl (List.mem_of_getElem? (i := 2) rfl) ?_
    obtain ⟨v18, e19, h⟩ := uu_ob h
    refine uu_iald e19 dX12_partByte_22 ?_
    refine uu_iconst (v := 1) dX12_partByte_23 (by decide) ?_
    refine uu_iadd dX12_partByte_24 ?_
    obtain ⟨s20, e21, h⟩ := uu_ob h
    refine uu_iast e21 dX12_partByte_25 ?_
    have hr := Option.some.inj h
    subst hr
    exact uu_vret rfl dX12_partByte_26
abbrev mX12_isOrder : hM := (yX12_isOrder, cX12_isOrder, 5, (some (.boolean)))
theorem dX12_isOrder_22 : decode cX12_isOrder 22 = .ok (.iload 4, 2) := by decide +kernel
theorem dX12_isOrder_24 : decode cX12_isOrder 24 = .ok (.aload_n 2, 1) := by decide +kernel
theorem dX12_isOrder_25 : decode cX12_isOrder 25 = .ok (.invokevirtual 58, 3) := by decide +kernel
theorem dX12_isOrder_28 : decode cX12_isOrder 28 = .ok (.if_icmp .ge 43, 3) := by decide +kernel
theorem dX12_isOrder_71 : decode cX12_isOrder 71 = .ok (.iload_n 3, 1) := by decide +kernel
theorem dX12_isOrder_72 : decode cX12_isOrder 72 = .ok (.ireturn, 1) := by decide +kernel
theorem dX12_isOrder_31 : decode cX12_isOrder 31 = .ok (.iload_n 3, 1) := by decide +kernel
theorem dX12_isOrder_32 : decode cX12_isOrder 32 = .ok (.ifCond .eq 39, 3) := by decide +kernel
theorem dX12_isOrder_35 : decode cX12_isOrder 35 = .ok (.aload_n 0, 1) := by decide +kernel
theorem dX12_isOrder_36 : decode cX12_isOrder 36 = .ok (.getfield 1219, 3) := by decide +kernel
theorem dX12_isOrder_39 : decode cX12_isOrder 39 = .ok (.bipush 20, 2) := by decide +kernel
theorem dX12_isOrder_41 : decode cX12_isOrder 41 = .ok (.iload_n 1, 1) := by decide +kernel
theorem dX12_isOrder_42 : decode cX12_isOrder 42 = .ok (.imul, 1) := by decide +kernel
theorem dX12_isOrder_43 : decode cX12_isOrder 43 = .ok (.iload 4, 2) := by decide +kernel
theorem dX12_isOrder_45 : decode cX12_isOrder 45 = .ok (.iadd, 1) := by decide +kernel
theorem dX12_isOrder_46 : decode cX12_isOrder 46 = .ok (.iaload, 1) := by decide +kernel
theorem dX12_isOrder_47 : decode cX12_isOrder 47 = .ok (.invokestatic 119, 3) := by decide +kernel
theorem dX12_isOrder_50 : decode cX12_isOrder 50 = .ok (.aload_n 2, 1) := by decide +kernel
theorem dX12_isOrder_51 : decode cX12_isOrder 51 = .ok (.iload 4, 2) := by decide +kernel
theorem dX12_isOrder_53 : decode cX12_isOrder 53 = .ok (.invokevirtual 64, 3) := by decide +kernel
theorem dX12_isOrder_56 : decode cX12_isOrder 56 = .ok (.if_icmp .ne 7, 3) := by decide +kernel
theorem dX12_isOrder_63 : decode cX12_isOrder 63 = .ok (.iconst 0, 1) := by decide +kernel
theorem dX12_isOrder_64 : decode cX12_isOrder 64 = .ok (.istore_n 3, 1) := by decide +kernel
theorem dX12_isOrder_65 : decode cX12_isOrder 65 = .ok (.iinc 4 1, 3) := by decide +kernel
theorem dX12_isOrder_68 : decode cX12_isOrder 68 = .ok (.goto (-46), 3) := by decide +kernel
theorem dX12_isOrder_59 : decode cX12_isOrder 59 = .ok (.iconst 1, 1) := by decide +kernel
theorem dX12_isOrder_60 : decode cX12_isOrder 60 = .ok (.goto 4, 3) := by decide +kernel
theorem dX12_isOrder_0 : decode cX12_isOrder 0 = .ok (.aload_n 0, 1) := by decide +kernel
theorem dX12_isOrder_1 : decode cX12_isOrder 1 = .ok (.getfield 1216, 3) := by decide +kernel
theorem dX12_isOrder_4 : decode cX12_isOrder 4 = .ok (.iload_n 1, 1) := by decide +kernel
theorem dX12_isOrder_5 : decode cX12_isOrder 5 = .ok (.iaload, 1) := by decide +kernel
theorem dX12_isOrder_6 : decode cX12_isOrder 6 = .ok (.aload_n 2, 1) := by decide +kernel
theorem dX12_isOrder_7 : decode cX12_isOrder 7 = .ok (.invokevirtual 58, 3) := by decide +kernel
theorem dX12_isOrder_10 : decode cX12_isOrder 10 = .ok (.if_icmp .ne 7, 3) := by decide +kernel
theorem dX12_isOrder_17 : decode cX12_isOrder 17 = .ok (.iconst 0, 1) := by decide +kernel
theorem dX12_isOrder_18 : decode cX12_isOrder 18 = .ok (.istore_n 3, 1) := by decide +kernel
theorem dX12_isOrder_19 : decode cX12_isOrder 19 = .ok (.iconst 0, 1) := by decide +kernel
theorem dX12_isOrder_20 : decode cX12_isOrder 20 = .ok (.istore 4, 2) := by decide +kernel
theorem dX12_isOrder_13 : decode cX12_isOrder 13 = .ok (.iconst 1, 1) := by decide +kernel
theorem dX12_isOrder_14 : decode cX12_isOrder 14 = .ok (.goto 4, 3) := by decide +kernel
def fb_X12_isOrder_22 (K22 : Int32 → List Nat → Bool → Int32 → uS → Option Bool) (x1 : Int32) (w2 : List Nat) (b3 : Bool) (x4 : Int32) (s : uS) : Option Bool := if (nI w2.length) ≤ x4 then (some b3) else (if b3 = true then ((iget 20 s 1158 (((20 : Int32) * x1) + x4)).bind fun v3 => (fn_X12_low v3 s).bind fun v5 => (stget w2 x4).bind fun v7 => if v5 = v7 then (K22 x1 w2 true (x4 + 1) s) else (K22 x1 w2 false (x4 + 1) s)) else (some b3))
set_option maxRecDepth 100000 in
set_option maxHeartbeats 4000000 in
theorem xb_X12_isOrder_22 {l : Launch} {D : va_G} {A : Nat → ClassId} {B : Nat} {Z : State → Heap → Prop} {vF : Value} (uk : uK B Z vF) {K22 : Int32 → List Nat → Bool → Int32 → uS → Option Bool} (hK22 : ∀ (x1 : Int32) (w2 : List Nat) (b3 : Bool) (x4 : Int32) {qw2 pw2 : Nat} (hw2 : uStr B Z qw2 pw2 w2) (s : uS) (r : Bool), K22 x1 w2 b3 x4 s = some r → GU l D A B Z mX12_isOrder 4 (s, some (.int (bI r))) s 22 [(0, .ref (B + 1079)), (1, .int x1), (2, .ref qw2), (3, .int (bI b3)), (4, .int x4)] []) {x1 : Int32} {w2 : List Nat} {b3 : Bool} {x4 : Int32} {s : uS} {r : Bool} {qw2 pw2 : Nat} (hw2 : uStr B Z qw2 pw2 w2) (h : fb_X12_isOrder_22 K22 x1 w2 b3 x4 s = some r) : GU l D A B Z mX12_isOrder 4 (s, some (.int (bI r))) s 22 [(0, .ref (B + 1079)), (1, .int x1), (2, .ref qw2), (3, .int (bI b3)), (4, .int x4)] [] := by
  unfold fb_X12_isOrder_22 at h
  refine uu_iload dX12_isOrder_22 (List.mem_of_getElem? (i := 4) rfl) ?_
  refine uu_aload_n dX12_isOrder_24 rfl (List.mem_of_getElem? (i := 2) rfl) ?_
  refine uu_slen uk hw2 lX12_58 (by decide) (Nat.le_of_ble_eq_true rfl) dX12_isOrder_25 ?_
  refine uu_icmp_ge (tgt := 71) dX12_isOrder_28 (by decide) (fun c1 => ?_) (fun c1 => ?_)
  · replace h := uu_pos c1 h
    refine uu_iload_n dX12_isOrder_71 rfl (List.mem_of_getElem? (i := 3) rfl) ?_
    have hr := Option.some.inj h
    subst hr
    exact uu_zret (x := bI b3) rfl (bI_z _) dX12_isOrder_72
  · replace h := uu_neg c1 h
    refine uu_iload_n dX12_isOrder_31 rfl (List.mem_of_getElem? (i := 3) rfl) ?_
    refine uu_ifb_eq (tgt := 71) dX12_isOrder_32 (by decide) (fun c2 => ?_) (fun c2 => ?_)
    · replace h := uu_neg c2 h
      refine uu_iload_n dX12_isOrder_71 rfl (List.mem_of_getElem? (i := 3) rfl) ?_
      have hr := Option.some.inj h
      subst hr
      exact uu_zret (x := bI b3) rfl (bI_z _) dX12_isOrder_72
    · replace h := uu_pos c2 h
      refine uu_aload_n dX12_isOrder_35 rfl (List.mem_of_getElem? (i := 0) rfl) ?_
      refine uu_geta (ci := 12) (N := 153) fX12_1219 (by decide) so_1079.is (by decide) (c := 1158) (by decide) dX12_isOrder_36 ?_
      refine uu_bipush (v := 20) dX12_isOrder_39 (by decide) ?_
      refine uu_iload_n dX12_isOrder_41 rfl (List.mem_of_getElem? (i := 1) rfl) ?_
      refine uu_imul dX12_isOrder_42 ?_
      refine uu_iload dX12_isOrder_43 (List.mem_of_getElem? (i := 4) rfl) ?_
      refine uu_iadd dX12_isOrder_45 ?_
      obtain ⟨v3, e4, h⟩ := uu_ob h
      refine uu_iald e4 dX12_isOrder_46 ?_
      obtain ⟨v5, e6, h⟩ := uu_ob h
      refine uu_cs (d1 := 0) (As := [.int v3]) (st := []) (st' := [.int v5]) (xc_X12_low uk  e6) kX12_low lX12_119 sX12_low (by decide) (Nat.le_of_ble_eq_true rfl) dX12_isOrder_47 rfl ?_
      refine uu_aload_n dX12_isOrder_50 rfl (List.mem_of_getElem? (i := 2) rfl) ?_
      refine uu_iload dX12_isOrder_51 (List.mem_of_getElem? (i := 4) rfl) ?_
      obtain ⟨v7, e8, h⟩ := uu_ob h
      refine uu_sch uk hw2 e8 lX12_64 (by decide) (Nat.le_of_ble_eq_true rfl) dX12_isOrder_53 ?_
      refine uu_icmp_ne (tgt := 63) dX12_isOrder_56 (by decide) (fun c9 => ?_) (fun c9 => ?_)
      · replace h := uu_neg c9 h
        refine uu_iconst (v := 0) dX12_isOrder_63 (by decide) ?_
        refine uu_istore_n dX12_isOrder_64 rfl (by decide) rfl ?_
        refine uu_iinc (v := x4 + 1) dX12_isOrder_65 (k := 4) rfl rfl (by decide) rfl ?_
        refine uu_goto (tgt := 22) dX12_isOrder_68 (by decide) ?_
        refine uu_lv [2, 3, 4, 1, 0] (lv' := [(0, .ref (B + 1079)), (1, .int x1), (2, .ref qw2), (3, .int 0), (4, .int (x4 + 1))]) rfl ?_
        exact hK22 x1 w2 false (x4 + 1) hw2 _ _ h
      · replace h := uu_pos c9 h
        refine uu_iconst (v := 1) dX12_isOrder_59 (by decide) ?_
        refine uu_goto (tgt := 64) dX12_isOrder_60 (by decide) ?_
        refine uu_istore_n dX12_isOrder_64 rfl (by decide) rfl ?_
        refine uu_iinc (v := x4 + 1) dX12_isOrder_65 (k := 4) rfl rfl (by decide) rfl ?_
        refine uu_goto (tgt := 22) dX12_isOrder_68 (by decide) ?_
        refine uu_lv [2, 3, 4, 1, 0] (lv' := [(0, .ref (B + 1079)), (1, .int x1), (2, .ref qw2), (3, .int 1), (4, .int (x4 + 1))]) rfl ?_
        exact hK22 x1 w2 true (x4 + 1) hw2 _ _ h
def fn_X12_isOrder_22  : Nat → Int32 → List Nat → Bool → Int32 → uS → Option Bool
  | 0 => fun _ _ _ _ _ => none
  | n + 1 => fb_X12_isOrder_22 (fn_X12_isOrder_22  n)
set_option maxRecDepth 100000 in
set_option maxHeartbeats 4000000 in
theorem xn_X12_isOrder_22 {l : Launch} {D : va_G} {A : Nat → ClassId} {B : Nat} {Z : State → Heap → Prop} {vF : Value} (uk : uK B Z vF)   : ∀ (n : Nat) (x1 : Int32) (w2 : List Nat) (b3 : Bool) (x4 : Int32) {qw2 pw2 : Nat} (hw2 : uStr B Z qw2 pw2 w2) (s : uS) (r : Bool), fn_X12_isOrder_22  n x1 w2 b3 x4 s = some r → GU l D A B Z mX12_isOrder 4 (s, some (.int (bI r))) s 22 [(0, .ref (B + 1079)), (1, .int x1), (2, .ref qw2), (3, .int (bI b3)), (4, .int x4)] [] := by
  intro n
  induction n with
  | zero => intro x1 w2 b3 x4 qw2 pw2 hw2 s r h
            cases h
  | succ n ih => intro x1 w2 b3 x4 qw2 pw2 hw2 s r h
                 exact xb_X12_isOrder_22 uk ih hw2 h
def fn_X12_isOrder (x1 : Int32) (w2 : List Nat) (s : uS) : Option Bool := (iget 20 s 1157 x1).bind fun v1 => if v1 = (nI w2.length) then (fn_X12_isOrder_22 uFu x1 w2 true 0 s) else (fn_X12_isOrder_22 uFu x1 w2 false 0 s)
set_option maxRecDepth 100000 in
set_option maxHeartbeats 4000000 in
theorem xc_X12_isOrder {l : Launch} {D : va_G} {A : Nat → ClassId} {B : Nat} {Z : State → Heap → Prop} {vF : Value} (uk : uK B Z vF) {x1 : Int32} {w2 : List Nat} {s : uS} {r : Bool} {qw2 pw2 : Nat} (hw2 : uStr B Z qw2 pw2 w2) (h : fn_X12_isOrder x1 w2 s = some r) : CU l D A B Z 4 mX12_isOrder s [.ref (B + 1079), .int x1, .ref qw2] (s, some (.int (bI r))) := by
  unfold fn_X12_isOrder at h
  refine cu_of rfl uk.1.1 (Nat.le_of_ble_eq_true rfl) ?_
  show GU _ _ _ _ _ _ _ _ _ 0 [(0, .ref (B + 1079)), (1, .int x1), (2, .ref qw2)] []
  refine uu_aload_n dX12_isOrder_0 rfl (List.mem_of_getElem? (i := 0) rfl) ?_
  refine uu_geta (ci := 12) (N := 153) fX12_1216 (by decide) so_1079.is (by decide) (c := 1157) (by decide) dX12_isOrder_1 ?_
  refine uu_iload_n dX12_isOrder_4 rfl (List.mem_of_getElem? (i := 1) rfl) ?_
  obtain ⟨v1, e2, h⟩ := uu_ob h
  refine uu_iald e2 dX12_isOrder_5 ?_
  refine uu_aload_n dX12_isOrder_6 rfl (List.mem_of_getElem? (i := 2) rfl) ?_
  refine uu_slen uk hw2 lX12_58 (by decide) (Nat.le_of_ble_eq_true rfl) dX12_isOrder_7 ?_
  refine uu_icmp_ne (tgt := 17) dX12_isOrder_10 (by decide) (fun c3 => ?_) (fun c3 => ?_)
  · replace h := uu_neg c3 h
    refine uu_iconst (v := 0) dX12_isOrder_17 (by decide) ?_
    refine uu_istore_n dX12_isOrder_18 rfl (by decide) rfl ?_
    refine uu_iconst (v := 0) dX12_isOrder_19 (by decide) ?_
    refine uu_istore dX12_isOrder_20 (by decide) rfl ?_
    refine uu_lv [2, 3, 4, 1, 0] (lv' := [(0, .ref (B + 1079)), (1, .int x1), (2, .ref qw2), (3, .int 0), (4, .int 0)]) rfl ?_
    exact xn_X12_isOrder_22 uk  _ _ _ _ _ hw2 _ _ h
  · replace h := uu_pos c3 h
    refine uu_iconst (v := 1) dX12_isOrder_13 (by decide) ?_
    refine uu_goto (tgt := 18) dX12_isOrder_14 (by decide) ?_
    refine uu_istore_n dX12_isOrder_18 rfl (by decide) rfl ?_
    refine uu_iconst (v := 0) dX12_isOrder_19 (by decide) ?_
    refine uu_istore dX12_isOrder_20 (by decide) rfl ?_
    refine uu_lv [2, 3, 4, 1, 0] (lv' := [(0, .ref (B + 1079)), (1, .int x1), (2, .ref qw2), (3, .int 1), (4, .int 0)]) rfl ?_
    exact xn_X12_isOrder_22 uk  _ _ _ _ _ hw2 _ _ h
abbrev mX12_orderOf : hM := (yX12_orderOf, cX12_orderOf, 2, (some (.int)))
theorem dX12_orderOf_0 : decode cX12_orderOf 0 = .ok (.aload_n 0, 1) := by decide +kernel
theorem dX12_orderOf_1 : decode cX12_orderOf 1 = .ok (.iload_n 1, 1) := by decide +kernel
theorem dX12_orderOf_2 : decode cX12_orderOf 2 = .ok (.ldc_w 1222, 3) := by decide +kernel
theorem kX12_isOrder : h_ml mX12_isOrder 2 := ⟨h_t11 55 rfl rfl, h_t1 16 rfl rfl, ⟨by decide, by decide, by decide +kernel⟩, by decide⟩
theorem lX12_1224 : Cond.methodLink RX12 1224 mX12_isOrder.1 ∈ lw_g := h_t11 52 rfl rfl
theorem sX12_isOrder : Cond.instanceMethod mX12_isOrder.1 ∈ lw_g ∧ Cond.selects mX12_isOrder.1.cls mX12_isOrder.1 mX12_isOrder.1 ∈ lw_g := ⟨h_t11 54 rfl rfl, h_ins 256 rfl⟩
theorem dX12_orderOf_5 : decode cX12_orderOf 5 = .ok (.invokevirtual 1224, 3) := by decide +kernel
theorem dX12_orderOf_8 : decode cX12_orderOf 8 = .ok (.ifCond .eq 7, 3) := by decide +kernel
theorem dX12_orderOf_15 : decode cX12_orderOf 15 = .ok (.aload_n 0, 1) := by decide +kernel
theorem dX12_orderOf_16 : decode cX12_orderOf 16 = .ok (.iload_n 1, 1) := by decide +kernel
theorem dX12_orderOf_17 : decode cX12_orderOf 17 = .ok (.ldc_w 1227, 3) := by decide +kernel
theorem dX12_orderOf_20 : decode cX12_orderOf 20 = .ok (.invokevirtual 1224, 3) := by decide +kernel
theorem dX12_orderOf_23 : decode cX12_orderOf 23 = .ok (.ifCond .eq 7, 3) := by decide +kernel
theorem dX12_orderOf_30 : decode cX12_orderOf 30 = .ok (.aload_n 0, 1) := by decide +kernel
theorem dX12_orderOf_31 : decode cX12_orderOf 31 = .ok (.iload_n 1, 1) := by decide +kernel
theorem dX12_orderOf_32 : decode cX12_orderOf 32 = .ok (.ldc_w 1229, 3) := by decide +kernel
theorem dX12_orderOf_35 : decode cX12_orderOf 35 = .ok (.invokevirtual 1224, 3) := by decide +kernel
theorem dX12_orderOf_38 : decode cX12_orderOf 38 = .ok (.ifCond .eq 7, 3) := by decide +kernel
theorem dX12_orderOf_45 : decode cX12_orderOf 45 = .ok (.aload_n 0, 1) := by decide +kernel
theorem dX12_orderOf_46 : decode cX12_orderOf 46 = .ok (.iload_n 1, 1) := by decide +kernel
theorem dX12_orderOf_47 : decode cX12_orderOf 47 = .ok (.ldc_w 1231, 3) := by decide +kernel
theorem dX12_orderOf_50 : decode cX12_orderOf 50 = .ok (.invokevirtual 1224, 3) := by decide +kernel
theorem dX12_orderOf_53 : decode cX12_orderOf 53 = .ok (.ifCond .eq 7, 3) := by decide +kernel
theorem dX12_orderOf_60 : decode cX12_orderOf 60 = .ok (.aload_n 0, 1) := by decide +kernel
theorem dX12_orderOf_61 : decode cX12_orderOf 61 = .ok (.iload_n 1, 1) := by decide +kernel
theorem dX12_orderOf_62 : decode cX12_orderOf 62 = .ok (.ldc_w 1233, 3) := by decide +kernel
theorem dX12_orderOf_65 : decode cX12_orderOf 65 = .ok (.invokevirtual 1224, 3) := by decide +kernel
theorem dX12_orderOf_68 : decode cX12_orderOf 68 = .ok (.ifCond .eq 7, 3) := by decide +kernel
theorem dX12_orderOf_75 : decode cX12_orderOf 75 = .ok (.aload_n 0, 1) := by decide +kernel
theorem dX12_orderOf_76 : decode cX12_orderOf 76 = .ok (.iload_n 1, 1) := by decide +kernel
theorem dX12_orderOf_77 : decode cX12_orderOf 77 = .ok (.ldc_w 1235, 3) := by decide +kernel
theorem dX12_orderOf_80 : decode cX12_orderOf 80 = .ok (.invokevirtual 1224, 3) := by decide +kernel
theorem dX12_orderOf_83 : decode cX12_orderOf 83 = .ok (.ifCond .eq 7, 3) := by decide +kernel
theorem dX12_orderOf_90 : decode cX12_orderOf 90 = .ok (.aload_n 0, 1) := by decide +kernel
theorem dX12_orderOf_91 : decode cX12_orderOf 91 = .ok (.iload_n 1, 1) := by decide +kernel
theorem dX12_orderOf_92 : decode cX12_orderOf 92 = .ok (.ldc_w 1237, 3) := by decide +kernel
theorem dX12_orderOf_95 : decode cX12_orderOf 95 = .ok (.invokevirtual 1224, 3) := by decide +kernel
theorem dX12_orderOf_98 : decode cX12_orderOf 98 = .ok (.ifCond .eq 8, 3) := by decide +kernel
theorem dX12_orderOf_106 : decode cX12_orderOf 106 = .ok (.aload_n 0, 1) := by decide +kernel
theorem dX12_orderOf_107 : decode cX12_orderOf 107 = .ok (.iload_n 1, 1) := by decide +kernel
theorem dX12_orderOf_108 : decode cX12_orderOf 108 = .ok (.ldc_w 1239, 3) := by decide +kernel
theorem dX12_orderOf_111 : decode cX12_orderOf 111 = .ok (.invokevirtual 1224, 3) := by decide +kernel
theorem dX12_orderOf_114 : decode cX12_orderOf 114 = .ok (.ifCond .eq 8, 3) := by decide +kernel
theorem dX12_orderOf_122 : decode cX12_orderOf 122 = .ok (.aload_n 0, 1) := by decide +kernel
theorem dX12_orderOf_123 : decode cX12_orderOf 123 = .ok (.iload_n 1, 1) := by decide +kernel
theorem dX12_orderOf_124 : decode cX12_orderOf 124 = .ok (.ldc_w 1241, 3) := by decide +kernel
theorem dX12_orderOf_127 : decode cX12_orderOf 127 = .ok (.invokevirtual 1224, 3) := by decide +kernel
theorem dX12_orderOf_130 : decode cX12_orderOf 130 = .ok (.ifCond .eq 8, 3) := by decide +kernel
theorem dX12_orderOf_138 : decode cX12_orderOf 138 = .ok (.iconst (-1), 1) := by decide +kernel
theorem dX12_orderOf_139 : decode cX12_orderOf 139 = .ok (.ireturn, 1) := by decide +kernel
theorem dX12_orderOf_133 : decode cX12_orderOf 133 = .ok (.bipush 8, 2) := by decide +kernel
theorem dX12_orderOf_135 : decode cX12_orderOf 135 = .ok (.goto 4, 3) := by decide +kernel
theorem dX12_orderOf_117 : decode cX12_orderOf 117 = .ok (.bipush 7, 2) := by decide +kernel
theorem dX12_orderOf_119 : decode cX12_orderOf 119 = .ok (.goto 20, 3) := by decide +kernel
theorem dX12_orderOf_101 : decode cX12_orderOf 101 = .ok (.bipush 6, 2) := by decide +kernel
theorem dX12_orderOf_103 : decode cX12_orderOf 103 = .ok (.goto 36, 3) := by decide +kernel
theorem dX12_orderOf_86 : decode cX12_orderOf 86 = .ok (.iconst 5, 1) := by decide +kernel
theorem dX12_orderOf_87 : decode cX12_orderOf 87 = .ok (.goto 52, 3) := by decide +kernel
theorem dX12_orderOf_71 : decode cX12_orderOf 71 = .ok (.iconst 4, 1) := by decide +kernel
theorem dX12_orderOf_72 : decode cX12_orderOf 72 = .ok (.goto 67, 3) := by decide +kernel
theorem dX12_orderOf_56 : decode cX12_orderOf 56 = .ok (.iconst 3, 1) := by decide +kernel
theorem dX12_orderOf_57 : decode cX12_orderOf 57 = .ok (.goto 82, 3) := by decide +kernel
theorem dX12_orderOf_41 : decode cX12_orderOf 41 = .ok (.iconst 2, 1) := by decide +kernel
theorem dX12_orderOf_42 : decode cX12_orderOf 42 = .ok (.goto 97, 3) := by decide +kernel
theorem dX12_orderOf_26 : decode cX12_orderOf 26 = .ok (.iconst 1, 1) := by decide +kernel
theorem dX12_orderOf_27 : decode cX12_orderOf 27 = .ok (.goto 112, 3) := by decide +kernel
theorem dX12_orderOf_11 : decode cX12_orderOf 11 = .ok (.iconst 0, 1) := by decide +kernel
theorem dX12_orderOf_12 : decode cX12_orderOf 12 = .ok (.goto 127, 3) := by decide +kernel
def fn_X12_orderOf (x1 : Int32) (s : uS) : Option Int32 := (fn_X12_isOrder x1 kW_192 s).bind fun v2 => if v2 = true then (some (0 : Int32)) else ((fn_X12_isOrder x1 kW_193 s).bind fun v6 => if v6 = true then (some (1 : Int32)) else ((fn_X12_isOrder x1 kW_194 s).bind fun v10 => if v10 = true then (some (2 : Int32)) else ((fn_X12_isOrder x1 kW_195 s).bind fun v14 => if v14 = true then (some (3 : Int32)) else ((fn_X12_isOrder x1 kW_196 s).bind fun v18 => if v18 = true then (some (4 : Int32)) else ((fn_X12_isOrder x1 kW_197 s).bind fun v22 => if v22 = true then (some (5 : Int32)) else ((fn_X12_isOrder x1 kW_198 s).bind fun v26 => if v26 = true then (some (6 : Int32)) else ((fn_X12_isOrder x1 kW_199 s).bind fun v30 => if v30 = true then (some (7 : Int32)) else ((fn_X12_isOrder x1 kW_200 s).bind fun v34 => if v34 = true then (some (8 : Int32)) else (some (-1 : Int32))))))))))
set_option maxRecDepth 100000 in
set_option maxHeartbeats 4000000 in
theorem xc_X12_orderOf {l : Launch} {D : va_G} {A : Nat → ClassId} {B : Nat} {Z : State → Heap → Prop} {vF : Value} (uk : uK B Z vF) {x1 : Int32} {s : uS} {r : Int32}  (h : fn_X12_orderOf x1 s = some r) : CU l D A B Z 5 mX12_orderOf s [.ref (B + 1079), .int x1] (s, some (.int r)) := by
  unfold fn_X12_orderOf at h
  refine cu_of rfl uk.1.1 (Nat.le_of_ble_eq_true rfl) ?_
  show GU _ _ _ _ _ _ _ _ _ 0 [(0, .ref (B + 1079)), (1, .int x1)] []
  refine uu_aload_n dX12_orderOf_0 rfl (List.mem_of_getElem? (i := 0) rfl) ?_
  refine uu_iload_n dX12_orderOf_1 rfl (List.mem_of_getElem? (i := 1) rfl) ?_
  obtain ⟨cq1, cp1, cv1, cw1⟩ := uk.2.1 192 _ rfl
  refine uu_ldcwS cv1 dX12_orderOf_2 ?_
  obtain ⟨v2, e3, h⟩ := uu_ob h
  refine uu_cv (d1 := 4) (k := 1079) (ci := 12) (T := TX12) (N := 153) (As := [.int x1, .ref cq1]) (st := []) (st' := [.int (bI v2)]) (xc_X12_isOrder uk cw1 e3) so_1079.is (by decide) rfl kX12_isOrder lX12_1224 sX12_isOrder (by decide) (Nat.le_of_ble_eq_true rfl) dX12_orderOf_5 rfl ?_
  refine uu_ifb_eq (tgt := 15) dX12_orderOf_8 (by decide) (fun c4 => ?_) (fun c4 => ?_)
  · replace h := uu_neg c4 h
    refine uu_aload_n dX12_orderOf_15 rfl (List.mem_of_getElem? (i := 0) rfl) ?_
    refine uu_iload_n dX12_orderOf_16 rfl (List.mem_of_getElem? (i := 1) rfl) ?_
    obtain ⟨cq5, cp5, cv5, cw5⟩ := uk.2.1 193 _ rfl
    refine uu_ldcwS cv5 dX12_orderOf_17 ?_
    obtain ⟨v6, e7, h⟩ := uu_ob h
    refine uu_cv (d1 := 4) (k := 1079) (ci := 12) (T := TX12) (N := 153) (As := [.int x1, .ref cq5]) (st := []) (st' := [.int (bI v6)]) (xc_X12_isOrder uk cw5 e7) so_1079.is (by decide) rfl kX12_isOrder lX12_1224 sX12_isOrder (by decide) (Nat.le_of_ble_eq_true rfl) dX12_orderOf_20 rfl ?_
    refine uu_ifb_eq (tgt := 30) dX12_orderOf_23 (by decide) (fun c8 => ?_) (fun c8 => ?_)
    · replace h := uu_neg c8 h
      refine uu_aload_n dX12_orderOf_30 rfl (List.mem_of_getElem? (i := 0) rfl) ?_
      refine uu_iload_n dX12_orderOf_31 rfl (List.mem_of_getElem? (i := 1) rfl) ?_
      obtain ⟨cq9, cp9, cv9, cw9⟩ := uk.2.1 194 _ rfl
      refine uu_ldcwS cv9 dX12_orderOf_32 ?_
      obtain ⟨v10, e11, h⟩ := uu_ob h
      refine uu_cv (d1 := 4) (k := 1079) (ci := 12) (T := TX12) (N := 153) (As := [.int x1, .ref cq9]) (st := []) (st' := [.int (bI v10)]) (xc_X12_isOrder uk cw9 e11) so_1079.is (by decide) rfl kX12_isOrder lX12_1224 sX12_isOrder (by decide) (Nat.le_of_ble_eq_true rfl) dX12_orderOf_35 rfl ?_
      refine uu_ifb_eq (tgt := 45) dX12_orderOf_38 (by decide) (fun c12 => ?_) (fun c12 => ?_)
      · replace h := uu_neg c12 h
        refine uu_aload_n dX12_orderOf_45 rfl (List.mem_of_getElem? (i := 0) rfl) ?_
        refine uu_iload_n dX12_orderOf_46 rfl (List.mem_of_getElem? (i := 1) rfl) ?_
        obtain ⟨cq13, cp13, cv13, cw13⟩ := uk.2.1 195 _ rfl
        refine uu_ldcwS cv13 dX12_orderOf_47 ?_
        obtain ⟨v14, e15, h⟩ := uu_ob h
        refine uu_cv (d1 := 4) (k := 1079) (ci := 12) (T := TX12) (N := 153) (As := [.int x1, .ref cq13]) (st := []) (st' := [.int (bI v14)]) (xc_X12_isOrder uk cw13 e15) so_1079.is (by decide) rfl kX12_isOrder lX12_1224 sX12_isOrder (by decide) (Nat.le_of_ble_eq_true rfl) dX12_orderOf_50 rfl ?_
        refine uu_ifb_eq (tgt := 60) dX12_orderOf_53 (by decide) (fun c16 => ?_) (fun c16 => ?_)
        · replace h := uu_neg c16 h
          refine uu_aload_n dX12_orderOf_60 rfl (List.mem_of_getElem? (i := 0) rfl) ?_
          refine uu_iload_n dX12_orderOf_61 rfl (List.mem_of_getElem? (i := 1) rfl) ?_
          obtain ⟨cq17, cp17, cv17, cw17⟩ := uk.2.1 196 _ rfl
          refine uu_ldcwS cv17 dX12_orderOf_62 ?_
          obtain ⟨v18, e19, h⟩ := uu_ob h
          refine uu_cv (d1 := 4) (k := 1079) (ci := 12) (T := TX12) (N := 153) (As := [.int x1, .ref cq17]) (st := []) (st' := [.int (bI v18)]) (xc_X12_isOrder uk cw17 e19) so_1079.is (by decide) rfl kX12_isOrder lX12_1224 sX12_isOrder (by decide) (Nat.le_of_ble_eq_true rfl) dX12_orderOf_65 rfl ?_
          refine uu_ifb_eq (tgt := 75) dX12_orderOf_68 (by decide) (fun c20 => ?_) (fun c20 => ?_)
          · replace h := uu_neg c20 h
            refine uu_aload_n dX12_orderOf_75 rfl (List.mem_of_getElem? (i := 0) rfl) ?_
            refine uu_iload_n dX12_orderOf_76 rfl (List.mem_of_getElem? (i := 1) rfl) ?_
            obtain ⟨cq21, cp21, cv21, cw21⟩ := uk.2.1 197 _ rfl
            refine uu_ldcwS cv21 dX12_orderOf_77 ?_
            obtain ⟨v22, e23, h⟩ := uu_ob h
            refine uu_cv (d1 := 4) (k := 1079) (ci := 12) (T := TX12) (N := 153) (As := [.int x1, .ref cq21]) (st := []) (st' := [.int (bI v22)]) (xc_X12_isOrder uk cw21 e23) so_1079.is (by decide) rfl kX12_isOrder lX12_1224 sX12_isOrder (by decide) (Nat.le_of_ble_eq_true rfl) dX12_orderOf_80 rfl ?_
            refine uu_ifb_eq (tgt := 90) dX12_orderOf_83 (by decide) (fun c24 => ?_) (fun c24 => ?_)
            · replace h := uu_neg c24 h
              refine uu_aload_n dX12_orderOf_90 rfl (List.mem_of_getElem? (i := 0) rfl) ?_
              refine uu_iload_n dX12_orderOf_91 rfl (List.mem_of_getElem? (i := 1) rfl) ?_
              obtain ⟨cq25, cp25, cv25, cw25⟩ := uk.2.1 198 _ rfl
              refine uu_ldcwS cv25 dX12_orderOf_92 ?_
              obtain ⟨v26, e27, h⟩ := uu_ob h
              refine uu_cv (d1 := 4) (k := 1079) (ci := 12) (T := TX12) (N := 153) (As := [.int x1, .ref cq25]) (st := []) (st' := [.int (bI v26)]) (xc_X12_isOrder uk cw25 e27) so_1079.is (by decide) rfl kX12_isOrder lX12_1224 sX12_isOrder (by decide) (Nat.le_of_ble_eq_true rfl) dX12_orderOf_95 rfl ?_
              refine uu_ifb_eq (tgt := 106) dX12_orderOf_98 (by decide) (fun c28 => ?_) (fun c28 => ?_)
              · replace h := uu_neg c28 h
                refine uu_aload_n dX12_orderOf_106 rfl (List.mem_of_getElem? (i := 0) rfl) ?_
                refine uu_iload_n dX12_orderOf_107 rfl (List.mem_of_getElem? (i := 1) rfl) ?_
                obtain ⟨cq29, cp29, cv29, cw29⟩ := uk.2.1 199 _ rfl
                refine uu_ldcwS cv29 dX12_orderOf_108 ?_
                obtain ⟨v30, e31, h⟩ := uu_ob h
                refine uu_cv (d1 := 4) (k := 1079) (ci := 12) (T := TX12) (N := 153) (As := [.int x1, .ref cq29]) (st := []) (st' := [.int (bI v30)]) (xc_X12_isOrder uk cw29 e31) so_1079.is (by decide) rfl kX12_isOrder lX12_1224 sX12_isOrder (by decide) (Nat.le_of_ble_eq_true rfl) dX12_orderOf_111 rfl ?_
                refine uu_ifb_eq (tgt := 122) dX12_orderOf_114 (by decide) (fun c32 => ?_) (fun c32 => ?_)
                · replace h := uu_neg c32 h
                  refine uu_aload_n dX12_orderOf_122 rfl (List.mem_of_getElem? (i := 0) rfl) ?_
                  refine uu_iload_n dX12_orderOf_123 rfl (List.mem_of_getElem? (i := 1) rfl) ?_
                  obtain ⟨cq33, cp33, cv33, cw33⟩ := uk.2.1 200 _ rfl
                  refine uu_ldcwS cv33 dX12_orderOf_124 ?_
                  obtain ⟨v34, e35, h⟩ := uu_ob h
                  refine uu_cv (d1 := 4) (k := 1079) (ci := 12) (T := TX12) (N := 153) (As := [.int x1, .ref cq33]) (st := []) (st' := [.int (bI v34)]) (xc_X12_isOrder uk cw33 e35) so_1079.is (by decide) rfl kX12_isOrder lX12_1224 sX12_isOrder (by decide) (Nat.le_of_ble_eq_true rfl) dX12_orderOf_127 rfl ?_
                  refine uu_ifb_eq (tgt := 138) dX12_orderOf_130 (by decide) (fun c36 => ?_) (fun c36 => ?_)
                  · replace h := uu_neg c36 h
                    refine uu_iconst (v := -1) dX12_orderOf_138 (by decide) ?_
                    have hr := Option.some.inj h
                    subst hr
                    exact uu_iret rfl dX12_orderOf_139
                  · replace h := uu_pos c36 h
                    refine uu_bipush (v := 8) dX12_orderOf_133 (by decide) ?_
                    refine uu_goto (tgt := 139) dX12_orderOf_135 (by decide) ?_
                    have hr := Option.some.inj h
                    subst hr
                    exact uu_iret rfl dX12_orderOf_139
                · replace h := uu_pos c32 h
                  refine uu_bipush (v := 7) dX12_orderOf_117 (by decide) ?_
                  refine uu_goto (tgt := 139) dX12_orderOf_119 (by decide) ?_
                  have hr := Option.some.inj h
                  subst hr
                  exact uu_iret rfl dX12_orderOf_139
              · replace h := uu_pos c28 h
                refine uu_bipush (v := 6) dX12_orderOf_101 (by decide) ?_
                refine uu_goto (tgt := 139) dX12_orderOf_103 (by decide) ?_
                have hr := Option.some.inj h
                subst hr
                exact uu_iret rfl dX12_orderOf_139
            · replace h := uu_pos c24 h
              refine uu_iconst (v := 5) dX12_orderOf_86 (by decide) ?_
              refine uu_goto (tgt := 139) dX12_orderOf_87 (by decide) ?_
              have hr := Option.some.inj h
              subst hr
              exact uu_iret rfl dX12_orderOf_139
          · replace h := uu_pos c20 h
            refine uu_iconst (v := 4) dX12_orderOf_71 (by decide) ?_
            refine uu_goto (tgt := 139) dX12_orderOf_72 (by decide) ?_
            have hr := Option.some.inj h
            subst hr
            exact uu_iret rfl dX12_orderOf_139
        · replace h := uu_pos c16 h
          refine uu_iconst (v := 3) dX12_orderOf_56 (by decide) ?_
          refine uu_goto (tgt := 139) dX12_orderOf_57 (by decide) ?_
          have hr := Option.some.inj h
          subst hr
          exact uu_iret rfl dX12_orderOf_139
      · replace h := uu_pos c12 h
        refine uu_iconst (v := 2) dX12_orderOf_41 (by decide) ?_
        refine uu_goto (tgt := 139) dX12_orderOf_42 (by decide) ?_
        have hr := Option.some.inj h
        subst hr
        exact uu_iret rfl dX12_orderOf_139
    · replace h := uu_pos c8 h
      refine uu_iconst (v := 1) dX12_orderOf_26 (by decide) ?_
      refine uu_goto (tgt := 139) dX12_orderOf_27 (by decide) ?_
      have hr := Option.some.inj h
      subst hr
      exact uu_iret rfl dX12_orderOf_139
  · replace h := uu_pos c4 h
    refine uu_iconst (v := 0) dX12_orderOf_11 (by decide) ?_
    refine uu_goto (tgt := 139) dX12_orderOf_12 (by decide) ?_
    have hr := Option.some.inj h
    subst hr
    exact uu_iret rfl dX12_orderOf_139
abbrev mX12_partsOf : hM := (yX12_partsOf, cX12_partsOf, 1, (some (.int)))
theorem dX12_partsOf_0 : decode cX12_partsOf 0 = .ok (.iload_n 0, 1) := by decide +kernel
theorem dX12_partsOf_1 : decode cX12_partsOf 1 = .ok (.ifCond .eq 14, 3) := by decide +kernel
theorem dX12_partsOf_15 : decode cX12_partsOf 15 = .ok (.iconst 2, 1) := by decide +kernel
theorem dX12_partsOf_16 : decode cX12_partsOf 16 = .ok (.goto 19, 3) := by decide +kernel
theorem dX12_partsOf_35 : decode cX12_partsOf 35 = .ok (.ireturn, 1) := by decide +kernel
theorem dX12_partsOf_4 : decode cX12_partsOf 4 = .ok (.iload_n 0, 1) := by decide +kernel
theorem dX12_partsOf_5 : decode cX12_partsOf 5 = .ok (.iconst 2, 1) := by decide +kernel
theorem dX12_partsOf_6 : decode cX12_partsOf 6 = .ok (.if_icmp .eq 9, 3) := by decide +kernel
theorem dX12_partsOf_9 : decode cX12_partsOf 9 = .ok (.iload_n 0, 1) := by decide +kernel
theorem dX12_partsOf_10 : decode cX12_partsOf 10 = .ok (.bipush 7, 2) := by decide +kernel
theorem dX12_partsOf_12 : decode cX12_partsOf 12 = .ok (.if_icmp .ne 7, 3) := by decide +kernel
theorem dX12_partsOf_19 : decode cX12_partsOf 19 = .ok (.iload_n 0, 1) := by decide +kernel
theorem dX12_partsOf_20 : decode cX12_partsOf 20 = .ok (.iconst 5, 1) := by decide +kernel
theorem dX12_partsOf_21 : decode cX12_partsOf 21 = .ok (.if_icmp .eq 9, 3) := by decide +kernel
theorem dX12_partsOf_30 : decode cX12_partsOf 30 = .ok (.iconst 0, 1) := by decide +kernel
theorem dX12_partsOf_31 : decode cX12_partsOf 31 = .ok (.goto 4, 3) := by decide +kernel
theorem dX12_partsOf_24 : decode cX12_partsOf 24 = .ok (.iload_n 0, 1) := by decide +kernel
theorem dX12_partsOf_25 : decode cX12_partsOf 25 = .ok (.bipush 8, 2) := by decide +kernel
theorem dX12_partsOf_27 : decode cX12_partsOf 27 = .ok (.if_icmp .ne 7, 3) := by decide +kernel
theorem dX12_partsOf_34 : decode cX12_partsOf 34 = .ok (.iconst 1, 1) := by decide +kernel
def fn_X12_partsOf (x0 : Int32) (s : uS) : Option Int32 := if x0 = 0 then (some (2 : Int32)) else (if x0 = 2 then (some (2 : Int32)) else (if x0 = 7 then (some (2 : Int32)) else (if x0 = 5 then (some (0 : Int32)) else (if x0 = 8 then (some (0 : Int32)) else (some (1 : Int32))))))
set_option maxRecDepth 100000 in
set_option maxHeartbeats 4000000 in
theorem xc_X12_partsOf {l : Launch} {D : va_G} {A : Nat → ClassId} {B : Nat} {Z : State → Heap → Prop} {vF : Value} (uk : uK B Z vF) {x0 : Int32} {s : uS} {r : Int32}  (h : fn_X12_partsOf x0 s = some r) : CU l D A B Z 0 mX12_partsOf s [.int x0] (s, some (.int r)) := by
  unfold fn_X12_partsOf at h
  refine cu_of rfl uk.1.1 (Nat.le_of_ble_eq_true rfl) ?_
  show GU _ _ _ _ _ _ _ _ _ 0 [(0, .int x0)] []
  refine uu_iload_n dX12_partsOf_0 rfl (List.mem_of_getElem? (i := 0) rfl) ?_
  refine uu_if_eq (tgt := 15) dX12_partsOf_1 (by decide) (fun c1 => ?_) (fun c1 => ?_)
  · replace h := uu_pos c1 h
    refine uu_iconst (v := 2) dX12_partsOf_15 (by decide) ?_
    refine uu_goto (tgt := 35) dX12_partsOf_16 (by decide) ?_
    have hr := Option.some.inj h
    subst hr
    exact uu_iret rfl dX12_partsOf_35
  · replace h := uu_neg c1 h
    refine uu_iload_n dX12_partsOf_4 rfl (List.mem_of_getElem? (i := 0) rfl) ?_
    refine uu_iconst (v := 2) dX12_partsOf_5 (by decide) ?_
    refine uu_icmp_eq (tgt := 15) dX12_partsOf_6 (by decide) (fun c2 => ?_) (fun c2 => ?_)
    · replace h := uu_pos c2 h
      refine uu_iconst (v := 2) dX12_partsOf_15 (by decide) ?_
      refine uu_goto (tgt := 35) dX12_partsOf_16 (by decide) ?_
      have hr := Option.some.inj h
      subst hr
      exact uu_iret rfl dX12_partsOf_35
    · replace h := uu_neg c2 h
      refine uu_iload_n dX12_partsOf_9 rfl (List.mem_of_getElem? (i := 0) rfl) ?_
      refine uu_bipush (v := 7) dX12_partsOf_10 (by decide) ?_
      refine uu_icmp_ne (tgt := 19) dX12_partsOf_12 (by decide) (fun c3 => ?_) (fun c3 => ?_)
      · replace h := uu_neg c3 h
        refine uu_iload_n dX12_partsOf_19 rfl (List.mem_of_getElem? (i := 0) rfl) ?_
        refine uu_iconst (v := 5) dX12_partsOf_20 (by decide) ?_
        refine uu_icmp_eq (tgt := 30) dX12_partsOf_21 (by decide) (fun c4 => ?_) (fun c4 => ?_)
        · replace h := uu_pos c4 h
          refine uu_iconst (v := 0) dX12_partsOf_30 (by decide) ?_
          refine uu_goto (tgt := 35) dX12_partsOf_31 (by decide) ?_
          have hr := Option.some.inj h
          subst hr
          exact uu_iret rfl dX12_partsOf_35
        · replace h := uu_neg c4 h
          refine uu_iload_n dX12_partsOf_24 rfl (List.mem_of_getElem? (i := 0) rfl) ?_
          refine uu_bipush (v := 8) dX12_partsOf_25 (by decide) ?_
          refine uu_icmp_ne (tgt := 34) dX12_partsOf_27 (by decide) (fun c5 => ?_) (fun c5 => ?_)
          · replace h := uu_neg c5 h
            refine uu_iconst (v := 1) dX12_partsOf_34 (by decide) ?_
            have hr := Option.some.inj h
            subst hr
            exact uu_iret rfl dX12_partsOf_35
          · replace h := uu_pos c5 h
            refine uu_iconst (v := 0) dX12_partsOf_30 (by decide) ?_
            refine uu_goto (tgt := 35) dX12_partsOf_31 (by decide) ?_
            have hr := Option.some.inj h
            subst hr
            exact uu_iret rfl dX12_partsOf_35
      · replace h := uu_pos c3 h
        refine uu_iconst (v := 2) dX12_partsOf_15 (by decide) ?_
        refine uu_goto (tgt := 35) dX12_partsOf_16 (by decide) ?_
        have hr := Option.some.inj h
        subst hr
        exact uu_iret rfl dX12_partsOf_35
abbrev mX12_fit : hM := (yX12_fit, cX12_fit, 2, (some (.boolean)))
theorem dX12_fit_48 : decode cX12_fit 48 = .ok (.if_icmp .ne 7, 3) := by decide +kernel
theorem dX12_fit_55 : decode cX12_fit 55 = .ok (.iconst 0, 1) := by decide +kernel
theorem dX12_fit_56 : decode cX12_fit 56 = .ok (.ireturn, 1) := by decide +kernel
theorem dX12_fit_51 : decode cX12_fit 51 = .ok (.iconst 1, 1) := by decide +kernel
theorem dX12_fit_52 : decode cX12_fit 52 = .ok (.goto 4, 3) := by decide +kernel
theorem dX12_fit_0 : decode cX12_fit 0 = .ok (.aload_n 0, 1) := by decide +kernel
theorem dX12_fit_1 : decode cX12_fit 1 = .ok (.getfield 1243, 3) := by decide +kernel
theorem dX12_fit_4 : decode cX12_fit 4 = .ok (.iload_n 1, 1) := by decide +kernel
theorem dX12_fit_5 : decode cX12_fit 5 = .ok (.iaload, 1) := by decide +kernel
theorem dX12_fit_6 : decode cX12_fit 6 = .ok (.ifCond .lt 49, 3) := by decide +kernel
theorem dX12_fit_9 : decode cX12_fit 9 = .ok (.aload_n 0, 1) := by decide +kernel
theorem dX12_fit_10 : decode cX12_fit 10 = .ok (.getfield 1210, 3) := by decide +kernel
theorem dX12_fit_13 : decode cX12_fit 13 = .ok (.iload_n 1, 1) := by decide +kernel
theorem dX12_fit_14 : decode cX12_fit 14 = .ok (.iaload, 1) := by decide +kernel
theorem dX12_fit_15 : decode cX12_fit 15 = .ok (.aload_n 0, 1) := by decide +kernel
theorem dX12_fit_16 : decode cX12_fit 16 = .ok (.getfield 1243, 3) := by decide +kernel
theorem dX12_fit_19 : decode cX12_fit 19 = .ok (.iload_n 1, 1) := by decide +kernel
theorem dX12_fit_20 : decode cX12_fit 20 = .ok (.iaload, 1) := by decide +kernel
theorem kX12_partsOf : h_ml mX12_partsOf 1 := ⟨h_t11 126 rfl rfl, h_t1 16 rfl rfl, ⟨by decide, by decide, by decide +kernel⟩, by decide⟩
theorem lX12_1246 : Cond.methodLink RX12 1246 mX12_partsOf.1 ∈ lw_g := h_t11 124 rfl rfl
theorem sX12_partsOf : Cond.static mX12_partsOf.1 ∈ lw_g := h_t11 125 rfl rfl
theorem dX12_fit_21 : decode cX12_fit 21 = .ok (.invokestatic 1246, 3) := by decide +kernel
theorem dX12_fit_24 : decode cX12_fit 24 = .ok (.if_icmp .ne 31, 3) := by decide +kernel
theorem dX12_fit_27 : decode cX12_fit 27 = .ok (.aload_n 0, 1) := by decide +kernel
theorem dX12_fit_28 : decode cX12_fit 28 = .ok (.getfield 1249, 3) := by decide +kernel
theorem dX12_fit_31 : decode cX12_fit 31 = .ok (.iload_n 1, 1) := by decide +kernel
theorem dX12_fit_32 : decode cX12_fit 32 = .ok (.iaload, 1) := by decide +kernel
theorem dX12_fit_33 : decode cX12_fit 33 = .ok (.aload_n 0, 1) := by decide +kernel
theorem dX12_fit_34 : decode cX12_fit 34 = .ok (.getfield 1243, 3) := by decide +kernel
theorem dX12_fit_37 : decode cX12_fit 37 = .ok (.iload_n 1, 1) := by decide +kernel
theorem dX12_fit_38 : decode cX12_fit 38 = .ok (.iaload, 1) := by decide +kernel
theorem dX12_fit_39 : decode cX12_fit 39 = .ok (.iconst 2, 1) := by decide +kernel
theorem dX12_fit_40 : decode cX12_fit 40 = .ok (.if_icmp .ne 7, 3) := by decide +kernel
theorem dX12_fit_47 : decode cX12_fit 47 = .ok (.iconst 0, 1) := by decide +kernel
theorem dX12_fit_43 : decode cX12_fit 43 = .ok (.iconst 2, 1) := by decide +kernel
theorem dX12_fit_44 : decode cX12_fit 44 = .ok (.goto 4, 3) := by decide +kernel
def fb_X12_fit_48  (xs0 : Int32) (xs1 : Int32) (s : uS) : Option Bool := if xs1 = xs0 then (some true) else (some false)
set_option maxRecDepth 100000 in
set_option maxHeartbeats 4000000 in
theorem xb_X12_fit_48 {l : Launch} {D : va_G} {A : Nat → ClassId} {B : Nat} {Z : State → Heap → Prop} {vF : Value} (uk : uK B Z vF)   {xs0 : Int32} {xs1 : Int32} {s : uS} {r : Bool}  (h : fb_X12_fit_48  xs0 xs1 s = some r) : GU l D A B Z mX12_fit 1 (s, some (.int (bI r))) s 48 [] [.int xs0, .int xs1] := by
  unfold fb_X12_fit_48 at h
  refine uu_icmp_ne (tgt := 55) dX12_fit_48 (by decide) (fun c1 => ?_) (fun c1 => ?_)
  · replace h := uu_neg c1 h
    refine uu_iconst (v := 0) dX12_fit_55 (by decide) ?_
    have hr := Option.some.inj h
    subst hr
    exact uu_zret (x := bI false) rfl (bI_z _) dX12_fit_56
  · replace h := uu_pos c1 h
    refine uu_iconst (v := 1) dX12_fit_51 (by decide) ?_
    refine uu_goto (tgt := 56) dX12_fit_52 (by decide) ?_
    have hr := Option.some.inj h
    subst hr
    exact uu_zret (x := bI true) rfl (bI_z _) dX12_fit_56
def fn_X12_fit (x1 : Int32) (s : uS) : Option Bool := (iget 20 s 1159 x1).bind fun v1 => if v1 < 0 then (some false) else ((iget 20 s 1160 x1).bind fun v4 => (iget 20 s 1159 x1).bind fun v6 => (fn_X12_partsOf v6 s).bind fun v8 => if v4 = v8 then ((iget 20 s 1166 x1).bind fun v11 => (iget 20 s 1159 x1).bind fun v13 => if v13 = 2 then (fb_X12_fit_48 2 v11 s) else (fb_X12_fit_48 0 v11 s)) else (some false))
set_option maxRecDepth 100000 in
set_option maxHeartbeats 4000000 in
theorem xc_X12_fit {l : Launch} {D : va_G} {A : Nat → ClassId} {B : Nat} {Z : State → Heap → Prop} {vF : Value} (uk : uK B Z vF) {x1 : Int32} {s : uS} {r : Bool}  (h : fn_X12_fit x1 s = some r) : CU l D A B Z 1 mX12_fit s [.ref (B + 1079), .int x1] (s, some (.int (bI r))) := by
  unfold fn_X12_fit at h
  refine cu_of rfl uk.1.1 (Nat.le_of_ble_eq_true rfl) ?_
  show GU _ _ _ _ _ _ _ _ _ 0 [(0, .ref (B + 1079)), (1, .int x1)] []
  refine uu_aload_n dX12_fit_0 rfl (List.mem_of_getElem? (i := 0) rfl) ?_
  refine uu_geta (ci := 12) (N := 153) fX12_1243 (by decide) so_1079.is (by decide) (c := 1159) (by decide) dX12_fit_1 ?_
  refine uu_iload_n dX12_fit_4 rfl (List.mem_of_getElem? (i := 1) rfl) ?_
  obtain ⟨v1, e2, h⟩ := uu_ob h
  refine uu_iald e2 dX12_fit_5 ?_
  refine uu_if_lt (tgt := 55) dX12_fit_6 (by decide) (fun c3 => ?_) (fun c3 => ?_)
  · replace h := uu_pos c3 h
    refine uu_iconst (v := 0) dX12_fit_55 (by decide) ?_
    have hr := Option.some.inj h
    subst hr
    exact uu_zret (x := bI false) rfl (bI_z _) dX12_fit_56
  · replace h := uu_neg c3 h
    refine uu_aload_n dX12_fit_9 rfl (List.mem_of_getElem? (i := 0) rfl) ?_
    refine uu_geta (ci := 12) (N := 153) fX12_1210 (by decide) so_1079.is (by decide) (c := 1160) (by decide) dX12_fit_10 ?_
    refine uu_iload_n dX12_fit_13 rfl (List.mem_of_getElem? (i := 1) rfl) ?_
    obtain ⟨v4, e5, h⟩ := uu_ob h
    refine uu_iald e5 dX12_fit_14 ?_
    refine uu_aload_n dX12_fit_15 rfl (List.mem_of_getElem? (i := 0) rfl) ?_
    refine uu_geta (ci := 12) (N := 153) fX12_1243 (by decide) so_1079.is (by decide) (c := 1159) (by decide) dX12_fit_16 ?_
    refine uu_iload_n dX12_fit_19 rfl (List.mem_of_getElem? (i := 1) rfl) ?_
    obtain ⟨v6, e7, h⟩ := uu_ob h
    refine uu_iald e7 dX12_fit_20 ?_
    obtain ⟨v8, e9, h⟩ := uu_ob h
    refine uu_cs (d1 := 0) (As := [.int v6]) (st := [.int v4]) (st' := [.int v8, .int v4]) (xc_X12_partsOf uk  e9) kX12_partsOf lX12_1246 sX12_partsOf (by decide) (Nat.le_of_ble_eq_true rfl) dX12_fit_21 rfl ?_
    refine uu_icmp_ne (tgt := 55) dX12_fit_24 (by decide) (fun c10 => ?_) (fun c10 => ?_)
    · replace h := uu_neg c10 h
      refine uu_iconst (v := 0) dX12_fit_55 (by decide) ?_
      have hr := Option.some.inj h
      subst hr
      exact uu_zret (x := bI false) rfl (bI_z _) dX12_fit_56
    · replace h := uu_pos c10 h
      refine uu_aload_n dX12_fit_27 rfl (List.mem_of_getElem? (i := 0) rfl) ?_
      refine uu_geta (ci := 12) (N := 153) fX12_1249 (by decide) so_1079.is (by decide) (c := 1166) (by decide) dX12_fit_28 ?_
      refine uu_iload_n dX12_fit_31 rfl (List.mem_of_getElem? (i := 1) rfl) ?_
      obtain ⟨v11, e12, h⟩ := uu_ob h
      refine uu_iald e12 dX12_fit_32 ?_
      refine uu_aload_n dX12_fit_33 rfl (List.mem_of_getElem? (i := 0) rfl) ?_
      refine uu_geta (ci := 12) (N := 153) fX12_1243 (by decide) so_1079.is (by decide) (c := 1159) (by decide) dX12_fit_34 ?_
      refine uu_iload_n dX12_fit_37 rfl (List.mem_of_getElem? (i := 1) rfl) ?_
      obtain ⟨v13, e14, h⟩ := uu_ob h
      refine uu_iald e14 dX12_fit_38 ?_
      refine uu_iconst (v := 2) dX12_fit_39 (by decide) ?_
      refine uu_icmp_ne (tgt := 47) dX12_fit_40 (by decide) (fun c15 => ?_) (fun c15 => ?_)
      · replace h := uu_neg c15 h
        refine uu_iconst (v := 0) dX12_fit_47 (by decide) ?_
        refine uu_lv [] (lv' := []) rfl ?_
        exact xb_X12_fit_48 uk  h
      · replace h := uu_pos c15 h
        refine uu_iconst (v := 2) dX12_fit_43 (by decide) ?_
        refine uu_goto (tgt := 48) dX12_fit_44 (by decide) ?_
        refine uu_lv [] (lv' := []) rfl ?_
        exact xb_X12_fit_48 uk  h
abbrev mX12_pass : hM := (yX12_pass, cX12_pass, 3, (some (.boolean)))
theorem dX12_pass_0 : decode cX12_pass 0 = .ok (.aload_n 0, 1) := by decide +kernel
theorem dX12_pass_1 : decode cX12_pass 1 = .ok (.getfield 1252, 3) := by decide +kernel
theorem dX12_pass_4 : decode cX12_pass 4 = .ok (.iload_n 1, 1) := by decide +kernel
theorem dX12_pass_5 : decode cX12_pass 5 = .ok (.bipush 12, 2) := by decide +kernel
theorem dX12_pass_7 : decode cX12_pass 7 = .ok (.iastore, 1) := by decide +kernel
theorem dX12_pass_8 : decode cX12_pass 8 = .ok (.aload_n 0, 1) := by decide +kernel
theorem dX12_pass_9 : decode cX12_pass 9 = .ok (.getfield 1255, 3) := by decide +kernel
theorem dX12_pass_12 : decode cX12_pass 12 = .ok (.iload_n 1, 1) := by decide +kernel
theorem dX12_pass_13 : decode cX12_pass 13 = .ok (.iload_n 2, 1) := by decide +kernel
theorem dX12_pass_14 : decode cX12_pass 14 = .ok (.bipush 13, 2) := by decide +kernel
theorem dX12_pass_16 : decode cX12_pass 16 = .ok (.if_icmp .ne 7, 3) := by decide +kernel
theorem dX12_pass_23 : decode cX12_pass 23 = .ok (.iconst 0, 1) := by decide +kernel
theorem dX12_pass_24 : decode cX12_pass 24 = .ok (.bastore, 1) := by decide +kernel
theorem dX12_pass_25 : decode cX12_pass 25 = .ok (.iconst 1, 1) := by decide +kernel
theorem dX12_pass_26 : decode cX12_pass 26 = .ok (.ireturn, 1) := by decide +kernel
theorem dX12_pass_19 : decode cX12_pass 19 = .ok (.iconst 1, 1) := by decide +kernel
theorem dX12_pass_20 : decode cX12_pass 20 = .ok (.goto 4, 3) := by decide +kernel
def fn_X12_pass (x1 : Int32) (x2 : Int32) (s : uS) : Option (uS × Bool) := (iput 20 s 1156 x1 12).bind fun s1 => if x2 = 13 then ((iput 22 s1 1163 x1 1).bind fun s6 => some (s6, true)) else ((iput 22 s1 1163 x1 0).bind fun s4 => some (s4, true))
set_option maxRecDepth 100000 in
set_option maxHeartbeats 4000000 in
theorem xc_X12_pass {l : Launch} {D : va_G} {A : Nat → ClassId} {B : Nat} {Z : State → Heap → Prop} {vF : Value} (uk : uK B Z vF) {x1 : Int32} {x2 : Int32} {s : uS} {r : (uS × Bool)}  (h : fn_X12_pass x1 x2 s = some r) : CU l D A B Z 0 mX12_pass s [.ref (B + 1079), .int x1, .int x2] (r.1, some (.int (bI r.2))) := by
  unfold fn_X12_pass at h
  refine cu_of rfl uk.1.1 (Nat.le_of_ble_eq_true rfl) ?_
  show GU _ _ _ _ _ _ _ _ _ 0 [(0, .ref (B + 1079)), (1, .int x1), (2, .int x2)] []
  refine uu_aload_n dX12_pass_0 rfl (List.mem_of_getElem? (i := 0) rfl) ?_
  refine uu_geta (ci := 12) (N := 153) fX12_1252 (by decide) so_1079.is (by decide) (c := 1156) (by decide) dX12_pass_1 ?_
  refine uu_iload_n dX12_pass_4 rfl (List.mem_of_getElem? (i := 1) rfl) ?_
  refine uu_bipush (v := 12) dX12_pass_5 (by decide) ?_
  obtain ⟨s1, e2, h⟩ := uu_ob h
  refine uu_iast e2 dX12_pass_7 ?_
  refine uu_aload_n dX12_pass_8 rfl (List.mem_of_getElem? (i := 0) rfl) ?_
  refine uu_geta (ci := 12) (N := 153) fX12_1255 (by decide) so_1079.is (by decide) (c := 1163) (by decide) dX12_pass_9 ?_
  refine uu_iload_n dX12_pass_12 rfl (List.mem_of_getElem? (i := 1) rfl) ?_
  refine uu_iload_n dX12_pass_13 rfl (List.mem_of_getElem? (i := 2) rfl) ?_
  refine uu_bipush (v := 13) dX12_pass_14 (by decide) ?_
  refine uu_icmp_ne (tgt := 23) dX12_pass_16 (by decide) (fun c3 => ?_) (fun c3 => ?_)
  · replace h := uu_neg c3 h
    refine uu_iconst (v := 0) dX12_pass_23 (by decide) ?_
    obtain ⟨s4, e5, h⟩ := uu_ob h
    refine uu_zast e5 dX12_pass_24 ?_
    refine uu_iconst (v := 1) dX12_pass_25 (by decide) ?_
    have hr := Option.some.inj h
    subst hr
    exact uu_zret (x := bI true) rfl (bI_z _) dX12_pass_26
  · replace h := uu_pos c3 h
    refine uu_iconst (v := 1) dX12_pass_19 (by decide) ?_
    refine uu_goto (tgt := 24) dX12_pass_20 (by decide) ?_
    obtain ⟨s6, e7, h⟩ := uu_ob h
    refine uu_zast e7 dX12_pass_24 ?_
    refine uu_iconst (v := 1) dX12_pass_25 (by decide) ?_
    have hr := Option.some.inj h
    subst hr
    exact uu_zret (x := bI true) rfl (bI_z _) dX12_pass_26
abbrev mX12_go : hM := (yX12_go, cX12_go, 3, (some (.boolean)))
theorem dX12_go_0 : decode cX12_go 0 = .ok (.aload_n 0, 1) := by decide +kernel
theorem dX12_go_1 : decode cX12_go 1 = .ok (.getfield 1252, 3) := by decide +kernel
theorem dX12_go_4 : decode cX12_go 4 = .ok (.iload_n 1, 1) := by decide +kernel
theorem dX12_go_5 : decode cX12_go 5 = .ok (.iload_n 2, 1) := by decide +kernel
theorem dX12_go_6 : decode cX12_go 6 = .ok (.iastore, 1) := by decide +kernel
theorem dX12_go_7 : decode cX12_go 7 = .ok (.iconst 1, 1) := by decide +kernel
theorem dX12_go_8 : decode cX12_go 8 = .ok (.ireturn, 1) := by decide +kernel
def fn_X12_go (x1 : Int32) (x2 : Int32) (s : uS) : Option (uS × Bool) := (iput 20 s 1156 x1 x2).bind fun s1 => some (s1, true)
set_option maxRecDepth 100000 in
set_option maxHeartbeats 4000000 in
theorem xc_X12_go {l : Launch} {D : va_G} {A : Nat → ClassId} {B : Nat} {Z : State → Heap → Prop} {vF : Value} (uk : uK B Z vF) {x1 : Int32} {x2 : Int32} {s : uS} {r : (uS × Bool)}  (h : fn_X12_go x1 x2 s = some r) : CU l D A B Z 0 mX12_go s [.ref (B + 1079), .int x1, .int x2] (r.1, some (.int (bI r.2))) := by
  unfold fn_X12_go at h
  refine cu_of rfl uk.1.1 (Nat.le_of_ble_eq_true rfl) ?_
  show GU _ _ _ _ _ _ _ _ _ 0 [(0, .ref (B + 1079)), (1, .int x1), (2, .int x2)] []
  refine uu_aload_n dX12_go_0 rfl (List.mem_of_getElem? (i := 0) rfl) ?_
  refine uu_geta (ci := 12) (N := 153) fX12_1252 (by decide) so_1079.is (by decide) (c := 1156) (by decide) dX12_go_1 ?_
  refine uu_iload_n dX12_go_4 rfl (List.mem_of_getElem? (i := 1) rfl) ?_
  refine uu_iload_n dX12_go_5 rfl (List.mem_of_getElem? (i := 2) rfl) ?_
  obtain ⟨s1, e2, h⟩ := uu_ob h
  refine uu_iast e2 dX12_go_6 ?_
  refine uu_iconst (v := 1) dX12_go_7 (by decide) ?_
  have hr := Option.some.inj h
  subst hr
  exact uu_zret (x := bI true) rfl (bI_z _) dX12_go_8
abbrev mX12_behindIn : hM := (yX12_behindIn, cX12_behindIn, 3, (some (.boolean)))
theorem dX12_behindIn_23 : decode cX12_behindIn 23 = .ok (.iload_n 2, 1) := by decide +kernel
theorem dX12_behindIn_24 : decode cX12_behindIn 24 = .ok (.bipush 13, 2) := by decide +kernel
theorem dX12_behindIn_26 : decode cX12_behindIn 26 = .ok (.if_icmp .ne 13, 3) := by decide +kernel
theorem dX12_behindIn_39 : decode cX12_behindIn 39 = .ok (.aload_n 0, 1) := by decide +kernel
theorem dX12_behindIn_40 : decode cX12_behindIn 40 = .ok (.iload_n 1, 1) := by decide +kernel
theorem dX12_behindIn_41 : decode cX12_behindIn 41 = .ok (.iload_n 2, 1) := by decide +kernel
theorem kX12_pass : h_ml mX12_pass 2 := ⟨h_t11 46 rfl rfl, h_t1 16 rfl rfl, ⟨by decide, by decide, by decide +kernel⟩, by decide⟩
theorem lX12_1258 : Cond.methodLink RX12 1258 mX12_pass.1 ∈ lw_g := h_t11 43 rfl rfl
theorem sX12_pass : Cond.instanceMethod mX12_pass.1 ∈ lw_g ∧ Cond.selects mX12_pass.1.cls mX12_pass.1 mX12_pass.1 ∈ lw_g := ⟨h_t11 45 rfl rfl, h_ins 254 rfl⟩
theorem dX12_behindIn_42 : decode cX12_behindIn 42 = .ok (.invokevirtual 1258, 3) := by decide +kernel
theorem dX12_behindIn_45 : decode cX12_behindIn 45 = .ok (.ireturn, 1) := by decide +kernel
theorem dX12_behindIn_29 : decode cX12_behindIn 29 = .ok (.aload_n 0, 1) := by decide +kernel
theorem dX12_behindIn_30 : decode cX12_behindIn 30 = .ok (.iload_n 1, 1) := by decide +kernel
theorem dX12_behindIn_31 : decode cX12_behindIn 31 = .ok (.bipush 11, 2) := by decide +kernel
theorem kX12_go : h_ml mX12_go 2 := ⟨h_t11 71 rfl rfl, h_t1 16 rfl rfl, ⟨by decide, by decide, by decide +kernel⟩, by decide⟩
theorem lX12_1267 : Cond.methodLink RX12 1267 mX12_go.1 ∈ lw_g := h_t11 68 rfl rfl
theorem sX12_go : Cond.instanceMethod mX12_go.1 ∈ lw_g ∧ Cond.selects mX12_go.1.cls mX12_go.1 mX12_go.1 ∈ lw_g := ⟨h_t11 70 rfl rfl, h_ins 258 rfl⟩
theorem dX12_behindIn_33 : decode cX12_behindIn 33 = .ok (.invokevirtual 1267, 3) := by decide +kernel
theorem dX12_behindIn_36 : decode cX12_behindIn 36 = .ok (.goto 9, 3) := by decide +kernel
theorem dX12_behindIn_0 : decode cX12_behindIn 0 = .ok (.iload_n 2, 1) := by decide +kernel
theorem dX12_behindIn_1 : decode cX12_behindIn 1 = .ok (.bipush 32, 2) := by decide +kernel
theorem dX12_behindIn_3 : decode cX12_behindIn 3 = .ok (.if_icmp .ne 20, 3) := by decide +kernel
theorem dX12_behindIn_6 : decode cX12_behindIn 6 = .ok (.aload_n 0, 1) := by decide +kernel
theorem dX12_behindIn_7 : decode cX12_behindIn 7 = .ok (.getfield 1210, 3) := by decide +kernel
theorem dX12_behindIn_10 : decode cX12_behindIn 10 = .ok (.iload_n 1, 1) := by decide +kernel
theorem dX12_behindIn_11 : decode cX12_behindIn 11 = .ok (.iaload, 1) := by decide +kernel
theorem dX12_behindIn_12 : decode cX12_behindIn 12 = .ok (.iconst 3, 1) := by decide +kernel
theorem dX12_behindIn_13 : decode cX12_behindIn 13 = .ok (.if_icmp .ge 10, 3) := by decide +kernel
theorem dX12_behindIn_16 : decode cX12_behindIn 16 = .ok (.aload_n 0, 1) := by decide +kernel
theorem dX12_behindIn_17 : decode cX12_behindIn 17 = .ok (.iload_n 1, 1) := by decide +kernel
theorem dX12_behindIn_18 : decode cX12_behindIn 18 = .ok (.iconst 2, 1) := by decide +kernel
theorem dX12_behindIn_19 : decode cX12_behindIn 19 = .ok (.invokevirtual 1267, 3) := by decide +kernel
theorem dX12_behindIn_22 : decode cX12_behindIn 22 = .ok (.ireturn, 1) := by decide +kernel
def fb_X12_behindIn_23  (x1 : Int32) (x2 : Int32) (s : uS) : Option (uS × Bool) := if x2 = 13 then ((fn_X12_go x1 11 s).bind fun r4 => some (r4.1, r4.2)) else ((fn_X12_pass x1 x2 s).bind fun r2 => some (r2.1, r2.2))
set_option maxRecDepth 100000 in
set_option maxHeartbeats 4000000 in
theorem xb_X12_behindIn_23 {l : Launch} {D : va_G} {A : Nat → ClassId} {B : Nat} {Z : State → Heap → Prop} {vF : Value} (uk : uK B Z vF)   {x1 : Int32} {x2 : Int32} {s : uS} {r : (uS × Bool)}  (h : fb_X12_behindIn_23  x1 x2 s = some r) : GU l D A B Z mX12_behindIn 1 (r.1, some (.int (bI r.2))) s 23 [(0, .ref (B + 1079)), (1, .int x1), (2, .int x2)] [] := by
  unfold fb_X12_behindIn_23 at h
  refine uu_iload_n dX12_behindIn_23 rfl (List.mem_of_getElem? (i := 2) rfl) ?_
  refine uu_bipush (v := 13) dX12_behindIn_24 (by decide) ?_
  refine uu_icmp_ne (tgt := 39) dX12_behindIn_26 (by decide) (fun c1 => ?_) (fun c1 => ?_)
  · replace h := uu_neg c1 h
    refine uu_aload_n dX12_behindIn_39 rfl (List.mem_of_getElem? (i := 0) rfl) ?_
    refine uu_iload_n dX12_behindIn_40 rfl (List.mem_of_getElem? (i := 1) rfl) ?_
    refine uu_iload_n dX12_behindIn_41 rfl (List.mem_of_getElem? (i := 2) rfl) ?_
    obtain ⟨r2, e3, h⟩ := uu_ob h
    refine uu_cv (d1 := 0) (k := 1079) (ci := 12) (T := TX12) (N := 153) (As := [.int x1, .int x2]) (st := []) (st' := [.int (bI r2.2)]) (xc_X12_pass uk  e3) so_1079.is (by decide) rfl kX12_pass lX12_1258 sX12_pass (by decide) (Nat.le_of_ble_eq_true rfl) dX12_behindIn_42 rfl ?_
    have hr := Option.some.inj h
    subst hr
    exact uu_zret (x := bI r2.2) rfl (bI_z _) dX12_behindIn_45
  · replace h := uu_pos c1 h
    refine uu_aload_n dX12_behindIn_29 rfl (List.mem_of_getElem? (i := 0) rfl) ?_
    refine uu_iload_n dX12_behindIn_30 rfl (List.mem_of_getElem? (i := 1) rfl) ?_
    refine uu_bipush (v := 11) dX12_behindIn_31 (by decide) ?_
    obtain ⟨r4, e5, h⟩ := uu_ob h
    refine uu_cv (d1 := 0) (k := 1079) (ci := 12) (T := TX12) (N := 153) (As := [.int x1, .int 11]) (st := []) (st' := [.int (bI r4.2)]) (xc_X12_go uk  e5) so_1079.is (by decide) rfl kX12_go lX12_1267 sX12_go (by decide) (Nat.le_of_ble_eq_true rfl) dX12_behindIn_33 rfl ?_
    refine uu_goto (tgt := 45) dX12_behindIn_36 (by decide) ?_
    have hr := Option.some.inj h
    subst hr
    exact uu_zret (x := bI r4.2) rfl (bI_z _) dX12_behindIn_45
def fn_X12_behindIn (x1 : Int32) (x2 : Int32) (s : uS) : Option (uS × Bool) := if x2 = 32 then ((iget 20 s 1160 x1).bind fun v2 => if (3 : Int32) ≤ v2 then (fb_X12_behindIn_23 x1 x2 s) else ((fn_X12_go x1 2 s).bind fun r5 => some (r5.1, r5.2))) else (fb_X12_behindIn_23 x1 x2 s)
set_option maxRecDepth 100000 in
set_option maxHeartbeats 4000000 in
theorem xc_X12_behindIn {l : Launch} {D : va_G} {A : Nat → ClassId} {B : Nat} {Z : State → Heap → Prop} {vF : Value} (uk : uK B Z vF) {x1 : Int32} {x2 : Int32} {s : uS} {r : (uS × Bool)}  (h : fn_X12_behindIn x1 x2 s = some r) : CU l D A B Z 1 mX12_behindIn s [.ref (B + 1079), .int x1, .int x2] (r.1, some (.int (bI r.2))) := by
  unfold fn_X12_behindIn at h
  refine cu_of rfl uk.1.1 (Nat.le_of_ble_eq_true rfl) ?_
  show GU _ _ _ _ _ _ _ _ _ 0 [(0, .ref (B + 1079)), (1, .int x1), (2, .int x2)] []
  refine uu_iload_n dX12_behindIn_0 rfl (List.mem_of_getElem? (i := 2) rfl) ?_
  refine uu_bipush (v := 32) dX12_behindIn_1 (by decide) ?_
  refine uu_icmp_ne (tgt := 23) dX12_behindIn_3 (by decide) (fun c1 => ?_) (fun c1 => ?_)
  · replace h := uu_neg c1 h
    exact xb_X12_behindIn_23 uk  h
  · replace h := uu_pos c1 h
    refine uu_aload_n dX12_behindIn_6 rfl (List.mem_of_getElem? (i := 0) rfl) ?_
    refine uu_geta (ci := 12) (N := 153) fX12_1210 (by decide) so_1079.is (by decide) (c := 1160) (by decide) dX12_behindIn_7 ?_
    refine uu_iload_n dX12_behindIn_10 rfl (List.mem_of_getElem? (i := 1) rfl) ?_
    obtain ⟨v2, e3, h⟩ := uu_ob h
    refine uu_iald e3 dX12_behindIn_11 ?_
    refine uu_iconst (v := 3) dX12_behindIn_12 (by decide) ?_
    refine uu_icmp_ge (tgt := 23) dX12_behindIn_13 (by decide) (fun c4 => ?_) (fun c4 => ?_)
    · replace h := uu_pos c4 h
      exact xb_X12_behindIn_23 uk  h
    · replace h := uu_neg c4 h
      refine uu_aload_n dX12_behindIn_16 rfl (List.mem_of_getElem? (i := 0) rfl) ?_
      refine uu_iload_n dX12_behindIn_17 rfl (List.mem_of_getElem? (i := 1) rfl) ?_
      refine uu_iconst (v := 2) dX12_behindIn_18 (by decide) ?_
      obtain ⟨r5, e6, h⟩ := uu_ob h
      refine uu_cv (d1 := 0) (k := 1079) (ci := 12) (T := TX12) (N := 153) (As := [.int x1, .int 2]) (st := []) (st' := [.int (bI r5.2)]) (xc_X12_go uk  e6) so_1079.is (by decide) rfl kX12_go lX12_1267 sX12_go (by decide) (Nat.le_of_ble_eq_true rfl) dX12_behindIn_19 rfl ?_
      have hr := Option.some.inj h
      subst hr
      exact uu_zret (x := bI r5.2) rfl (bI_z _) dX12_behindIn_22
abbrev mX12_wordIn : hM := (yX12_wordIn, cX12_wordIn, 3, (some (.boolean)))
theorem dX12_wordIn_35 : decode cX12_wordIn 35 = .ok (.aload_n 0, 1) := by decide +kernel
theorem dX12_wordIn_36 : decode cX12_wordIn 36 = .ok (.getfield 1216, 3) := by decide +kernel
theorem dX12_wordIn_39 : decode cX12_wordIn 39 = .ok (.iload_n 1, 1) := by decide +kernel
theorem dX12_wordIn_40 : decode cX12_wordIn 40 = .ok (.aload_n 0, 1) := by decide +kernel
theorem dX12_wordIn_41 : decode cX12_wordIn 41 = .ok (.getfield 1216, 3) := by decide +kernel
theorem dX12_wordIn_44 : decode cX12_wordIn 44 = .ok (.iload_n 1, 1) := by decide +kernel
theorem dX12_wordIn_45 : decode cX12_wordIn 45 = .ok (.iaload, 1) := by decide +kernel
theorem dX12_wordIn_46 : decode cX12_wordIn 46 = .ok (.bipush 21, 2) := by decide +kernel
theorem dX12_wordIn_48 : decode cX12_wordIn 48 = .ok (.if_icmp .ge 14, 3) := by decide +kernel
theorem dX12_wordIn_62 : decode cX12_wordIn 62 = .ok (.bipush 21, 2) := by decide +kernel
theorem dX12_wordIn_64 : decode cX12_wordIn 64 = .ok (.iastore, 1) := by decide +kernel
theorem dX12_wordIn_65 : decode cX12_wordIn 65 = .ok (.iconst 1, 1) := by decide +kernel
theorem dX12_wordIn_66 : decode cX12_wordIn 66 = .ok (.ireturn, 1) := by decide +kernel
theorem dX12_wordIn_51 : decode cX12_wordIn 51 = .ok (.aload_n 0, 1) := by decide +kernel
theorem dX12_wordIn_52 : decode cX12_wordIn 52 = .ok (.getfield 1216, 3) := by decide +kernel
theorem dX12_wordIn_55 : decode cX12_wordIn 55 = .ok (.iload_n 1, 1) := by decide +kernel
theorem dX12_wordIn_56 : decode cX12_wordIn 56 = .ok (.iaload, 1) := by decide +kernel
theorem dX12_wordIn_57 : decode cX12_wordIn 57 = .ok (.iconst 1, 1) := by decide +kernel
theorem dX12_wordIn_58 : decode cX12_wordIn 58 = .ok (.iadd, 1) := by decide +kernel
theorem dX12_wordIn_59 : decode cX12_wordIn 59 = .ok (.goto 5, 3) := by decide +kernel
theorem dX12_wordIn_108 : decode cX12_wordIn 108 = .ok (.iastore, 1) := by decide +kernel
theorem dX12_wordIn_109 : decode cX12_wordIn 109 = .ok (.aload_n 0, 1) := by decide +kernel
theorem dX12_wordIn_110 : decode cX12_wordIn 110 = .ok (.iload_n 1, 1) := by decide +kernel
theorem dX12_wordIn_111 : decode cX12_wordIn 111 = .ok (.iload_n 2, 1) := by decide +kernel
theorem kX12_behindIn : h_ml mX12_behindIn 2 := ⟨h_t11 67 rfl rfl, h_t1 16 rfl rfl, ⟨by decide, by decide, by decide +kernel⟩, by decide⟩
theorem lX12_1264 : Cond.methodLink RX12 1264 mX12_behindIn.1 ∈ lw_g := h_t11 64 rfl rfl
theorem sX12_behindIn : Cond.instanceMethod mX12_behindIn.1 ∈ lw_g ∧ Cond.selects mX12_behindIn.1.cls mX12_behindIn.1 mX12_behindIn.1 ∈ lw_g := ⟨h_t11 66 rfl rfl, h_ins 257 rfl⟩
theorem dX12_wordIn_112 : decode cX12_wordIn 112 = .ok (.invokevirtual 1264, 3) := by decide +kernel
theorem dX12_wordIn_115 : decode cX12_wordIn 115 = .ok (.ireturn, 1) := by decide +kernel
theorem dX12_wordIn_0 : decode cX12_wordIn 0 = .ok (.iload_n 2, 1) := by decide +kernel
theorem dX12_wordIn_1 : decode cX12_wordIn 1 = .ok (.invokestatic 133, 3) := by decide +kernel
theorem dX12_wordIn_4 : decode cX12_wordIn 4 = .ok (.ifCond .eq 63, 3) := by decide +kernel
theorem dX12_wordIn_67 : decode cX12_wordIn 67 = .ok (.aload_n 0, 1) := by decide +kernel
theorem dX12_wordIn_68 : decode cX12_wordIn 68 = .ok (.getfield 1216, 3) := by decide +kernel
theorem dX12_wordIn_71 : decode cX12_wordIn 71 = .ok (.iload_n 1, 1) := by decide +kernel
theorem dX12_wordIn_72 : decode cX12_wordIn 72 = .ok (.iaload, 1) := by decide +kernel
theorem dX12_wordIn_73 : decode cX12_wordIn 73 = .ok (.ifCond .ne 10, 3) := by decide +kernel
theorem dX12_wordIn_83 : decode cX12_wordIn 83 = .ok (.aload_n 0, 1) := by decide +kernel
theorem dX12_wordIn_84 : decode cX12_wordIn 84 = .ok (.getfield 1243, 3) := by decide +kernel
theorem dX12_wordIn_87 : decode cX12_wordIn 87 = .ok (.iload_n 1, 1) := by decide +kernel
theorem dX12_wordIn_88 : decode cX12_wordIn 88 = .ok (.aload_n 0, 1) := by decide +kernel
theorem dX12_wordIn_89 : decode cX12_wordIn 89 = .ok (.getfield 1216, 3) := by decide +kernel
theorem dX12_wordIn_92 : decode cX12_wordIn 92 = .ok (.iload_n 1, 1) := by decide +kernel
theorem dX12_wordIn_93 : decode cX12_wordIn 93 = .ok (.iaload, 1) := by decide +kernel
theorem dX12_wordIn_94 : decode cX12_wordIn 94 = .ok (.bipush 21, 2) := by decide +kernel
theorem dX12_wordIn_96 : decode cX12_wordIn 96 = .ok (.if_icmp .ge 11, 3) := by decide +kernel
theorem dX12_wordIn_107 : decode cX12_wordIn 107 = .ok (.iconst (-1), 1) := by decide +kernel
theorem dX12_wordIn_99 : decode cX12_wordIn 99 = .ok (.aload_n 0, 1) := by decide +kernel
theorem dX12_wordIn_100 : decode cX12_wordIn 100 = .ok (.iload_n 1, 1) := by decide +kernel
theorem kX12_orderOf : h_ml mX12_orderOf 1 := ⟨h_t11 50 rfl rfl, h_t1 16 rfl rfl, ⟨by decide, by decide, by decide +kernel⟩, by decide⟩
theorem lX12_1261 : Cond.methodLink RX12 1261 mX12_orderOf.1 ∈ lw_g := h_t11 47 rfl rfl
theorem sX12_orderOf : Cond.instanceMethod mX12_orderOf.1 ∈ lw_g ∧ Cond.selects mX12_orderOf.1.cls mX12_orderOf.1 mX12_orderOf.1 ∈ lw_g := ⟨h_t11 49 rfl rfl, h_ins 255 rfl⟩
theorem dX12_wordIn_101 : decode cX12_wordIn 101 = .ok (.invokevirtual 1261, 3) := by decide +kernel
theorem dX12_wordIn_104 : decode cX12_wordIn 104 = .ok (.goto 4, 3) := by decide +kernel
theorem dX12_wordIn_76 : decode cX12_wordIn 76 = .ok (.aload_n 0, 1) := by decide +kernel
theorem dX12_wordIn_77 : decode cX12_wordIn 77 = .ok (.iload_n 1, 1) := by decide +kernel
theorem dX12_wordIn_78 : decode cX12_wordIn 78 = .ok (.iload_n 2, 1) := by decide +kernel
theorem dX12_wordIn_79 : decode cX12_wordIn 79 = .ok (.invokevirtual 1258, 3) := by decide +kernel
theorem dX12_wordIn_82 : decode cX12_wordIn 82 = .ok (.ireturn, 1) := by decide +kernel
theorem dX12_wordIn_7 : decode cX12_wordIn 7 = .ok (.aload_n 0, 1) := by decide +kernel
theorem dX12_wordIn_8 : decode cX12_wordIn 8 = .ok (.getfield 1216, 3) := by decide +kernel
theorem dX12_wordIn_11 : decode cX12_wordIn 11 = .ok (.iload_n 1, 1) := by decide +kernel
theorem dX12_wordIn_12 : decode cX12_wordIn 12 = .ok (.iaload, 1) := by decide +kernel
theorem dX12_wordIn_13 : decode cX12_wordIn 13 = .ok (.bipush 20, 2) := by decide +kernel
theorem dX12_wordIn_15 : decode cX12_wordIn 15 = .ok (.if_icmp .ge 20, 3) := by decide +kernel
theorem dX12_wordIn_18 : decode cX12_wordIn 18 = .ok (.aload_n 0, 1) := by decide +kernel
theorem dX12_wordIn_19 : decode cX12_wordIn 19 = .ok (.getfield 1219, 3) := by decide +kernel
theorem dX12_wordIn_22 : decode cX12_wordIn 22 = .ok (.bipush 20, 2) := by decide +kernel
theorem dX12_wordIn_24 : decode cX12_wordIn 24 = .ok (.iload_n 1, 1) := by decide +kernel
theorem dX12_wordIn_25 : decode cX12_wordIn 25 = .ok (.imul, 1) := by decide +kernel
theorem dX12_wordIn_26 : decode cX12_wordIn 26 = .ok (.aload_n 0, 1) := by decide +kernel
theorem dX12_wordIn_27 : decode cX12_wordIn 27 = .ok (.getfield 1216, 3) := by decide +kernel
theorem dX12_wordIn_30 : decode cX12_wordIn 30 = .ok (.iload_n 1, 1) := by decide +kernel
theorem dX12_wordIn_31 : decode cX12_wordIn 31 = .ok (.iaload, 1) := by decide +kernel
theorem dX12_wordIn_32 : decode cX12_wordIn 32 = .ok (.iadd, 1) := by decide +kernel
theorem dX12_wordIn_33 : decode cX12_wordIn 33 = .ok (.iload_n 2, 1) := by decide +kernel
theorem dX12_wordIn_34 : decode cX12_wordIn 34 = .ok (.iastore, 1) := by decide +kernel
def fb_X12_wordIn_35  (x1 : Int32) (s : uS) : Option (uS × Bool) := (iget 20 s 1157 x1).bind fun v1 => if (21 : Int32) ≤ v1 then ((iput 20 s 1157 x1 21).bind fun s4 => some (s4, true)) else ((iget 20 s 1157 x1).bind fun v6 => (iput 20 s 1157 x1 (v6 + 1)).bind fun s8 => some (s8, true))
set_option maxRecDepth 100000 in
set_option maxHeartbeats 4000000 in
theorem xb_X12_wordIn_35 {l : Launch} {D : va_G} {A : Nat → ClassId} {B : Nat} {Z : State → Heap → Prop} {vF : Value} (uk : uK B Z vF)   {x1 : Int32} {s : uS} {r : (uS × Bool)}  (h : fb_X12_wordIn_35  x1 s = some r) : GU l D A B Z mX12_wordIn 6 (r.1, some (.int (bI r.2))) s 35 [(0, .ref (B + 1079)), (1, .int x1)] [] := by
  unfold fb_X12_wordIn_35 at h
  refine uu_aload_n dX12_wordIn_35 rfl (List.mem_of_getElem? (i := 0) rfl) ?_
  refine uu_geta (ci := 12) (N := 153) fX12_1216 (by decide) so_1079.is (by decide) (c := 1157) (by decide) dX12_wordIn_36 ?_
  refine uu_iload_n dX12_wordIn_39 rfl (List.mem_of_getElem? (i := 1) rfl) ?_
  refine uu_aload_n dX12_wordIn_40 rfl (List.mem_of_getElem? (i := 0) rfl) ?_
  refine uu_geta (ci := 12) (N := 153) fX12_1216 (by decide) so_1079.is (by decide) (c := 1157) (by decide) dX12_wordIn_41 ?_
  refine uu_iload_n dX12_wordIn_44 rfl (List.mem_of_getElem? (i := 1) rfl) ?_
  obtain ⟨v1, e2, h⟩ := uu_ob h
  refine uu_iald e2 dX12_wordIn_45 ?_
  refine uu_bipush (v := 21) dX12_wordIn_46 (by decide) ?_
  refine uu_icmp_ge (tgt := 62) dX12_wordIn_48 (by decide) (fun c3 => ?_) (fun c3 => ?_)
  · replace h := uu_pos c3 h
    refine uu_bipush (v := 21) dX12_wordIn_62 (by decide) ?_
    obtain ⟨s4, e5, h⟩ := uu_ob h
    refine uu_iast e5 dX12_wordIn_64 ?_
    refine uu_iconst (v := 1) dX12_wordIn_65 (by decide) ?_
    have hr := Option.some.inj h
    subst hr
    exact uu_zret (x := bI true) rfl (bI_z _) dX12_wordIn_66
  · replace h := uu_neg c3 h
    refine uu_aload_n dX12_wordIn_51 rfl (List.mem_of_getElem? (i := 0) rfl) ?_
    refine uu_geta (ci := 12) (N := 153) fX12_1216 (by decide) so_1079.is (by decide) (c := 1157) (by decide) dX12_wordIn_52 ?_
    refine uu_iload_n dX12_wordIn_55 rfl (List.mem_of_getElem? (i := 1) rfl) ?_
    obtain ⟨v6, e7, h⟩ := uu_ob h
    refine uu_iald e7 dX12_wordIn_56 ?_
    refine uu_iconst (v := 1) dX12_wordIn_57 (by decide) ?_
    refine uu_iadd dX12_wordIn_58 ?_
    refine uu_goto (tgt := 64) dX12_wordIn_59 (by decide) ?_
    obtain ⟨s8, e9, h⟩ := uu_ob h
    refine uu_iast e9 dX12_wordIn_64 ?_
    refine uu_iconst (v := 1) dX12_wordIn_65 (by decide) ?_
    have hr := Option.some.inj h
    subst hr
    exact uu_zret (x := bI true) rfl (bI_z _) dX12_wordIn_66
def fb_X12_wordIn_108  (x1 : Int32) (x2 : Int32) (xs0 : Int32) (xs1 : Int32) (s : uS) : Option (uS × Bool) := (iput 20 s 1159 xs1 xs0).bind fun s1 => (fn_X12_behindIn x1 x2 s1).bind fun r3 => some (r3.1, r3.2)
set_option maxRecDepth 100000 in
set_option maxHeartbeats 4000000 in
theorem xb_X12_wordIn_108 {l : Launch} {D : va_G} {A : Nat → ClassId} {B : Nat} {Z : State → Heap → Prop} {vF : Value} (uk : uK B Z vF)   {x1 : Int32} {x2 : Int32} {xs0 : Int32} {xs1 : Int32} {s : uS} {r : (uS × Bool)}  (h : fb_X12_wordIn_108  x1 x2 xs0 xs1 s = some r) : GU l D A B Z mX12_wordIn 6 (r.1, some (.int (bI r.2))) s 108 [(0, .ref (B + 1079)), (1, .int x1), (2, .int x2)] [.int xs0, .int xs1, .ref (B + 1159)] := by
  unfold fb_X12_wordIn_108 at h
  obtain ⟨s1, e2, h⟩ := uu_ob h
  refine uu_iast e2 dX12_wordIn_108 ?_
  refine uu_aload_n dX12_wordIn_109 rfl (List.mem_of_getElem? (i := 0) rfl) ?_
  refine uu_iload_n dX12_wordIn_110 rfl (List.mem_of_getElem? (i := 1) rfl) ?_
  refine uu_iload_n dX12_wordIn_111 rfl (List.mem_of_getElem? (i := 2) rfl) ?_
  obtain ⟨r3, e4, h⟩ := uu_ob h
  refine uu_cv (d1 := 1) (k := 1079) (ci := 12) (T := TX12) (N := 153) (As := [.int x1, .int x2]) (st := []) (st' := [.int (bI r3.2)]) (xc_X12_behindIn uk  e4) so_1079.is (by decide) rfl kX12_behindIn lX12_1264 sX12_behindIn (by decide) (Nat.le_of_ble_eq_true rfl) dX12_wordIn_112 rfl ?_
  have hr := Option.some.inj h
  subst hr
  exact uu_zret (x := bI r3.2) rfl (bI_z _) dX12_wordIn_115
def fn_X12_wordIn (x1 : Int32) (x2 : Int32) (s : uS) : Option (uS × Bool) := (fn_X12_isLetter x2 s).bind fun v1 => if v1 = true then ((iget 20 s 1157 x1).bind fun v14 => if (20 : Int32) ≤ v14 then (fb_X12_wordIn_35 x1 s) else ((iget 20 s 1157 x1).bind fun v17 => (iput 20 s 1158 (((20 : Int32) * x1) + v17) x2).bind fun s19 => fb_X12_wordIn_35 x1 s19)) else ((iget 20 s 1157 x1).bind fun v4 => if v4 = 0 then ((fn_X12_pass x1 x2 s).bind fun r12 => some (r12.1, r12.2)) else ((iget 20 s 1157 x1).bind fun v7 => if (21 : Int32) ≤ v7 then (fb_X12_wordIn_108 x1 x2 (-1) x1 s) else ((fn_X12_orderOf x1 s).bind fun v10 => fb_X12_wordIn_108 x1 x2 v10 x1 s)))
set_option maxRecDepth 100000 in
set_option maxHeartbeats 4000000 in
theorem xc_X12_wordIn {l : Launch} {D : va_G} {A : Nat → ClassId} {B : Nat} {Z : State → Heap → Prop} {vF : Value} (uk : uK B Z vF) {x1 : Int32} {x2 : Int32} {s : uS} {r : (uS × Bool)}  (h : fn_X12_wordIn x1 x2 s = some r) : CU l D A B Z 6 mX12_wordIn s [.ref (B + 1079), .int x1, .int x2] (r.1, some (.int (bI r.2))) := by
  unfold fn_X12_wordIn at h
  refine cu_of rfl uk.1.1 (Nat.le_of_ble_eq_true rfl) ?_
  show GU _ _ _ _ _ _ _ _ _ 0 [(0, .ref (B + 1079)), (1, .int x1), (2, .int x2)] []
  refine uu_iload_n dX12_wordIn_0 rfl (List.mem_of_getElem? (i := 2) rfl) ?_
  obtain ⟨v1, e2, h⟩ := uu_ob h
  refine uu_cs (d1 := 0) (As := [.int x2]) (st := []) (st' := [.int (bI v1)]) (xc_X12_isLetter uk  e2) kX12_isLetter lX12_133 sX12_isLetter (by decide) (Nat.le_of_ble_eq_true rfl) dX12_wordIn_1 rfl ?_
  refine uu_ifb_eq (tgt := 67) dX12_wordIn_4 (by decide) (fun c3 => ?_) (fun c3 => ?_)
  · replace h := uu_neg c3 h
    refine uu_aload_n dX12_wordIn_67 rfl (List.mem_of_getElem? (i := 0) rfl) ?_
    refine uu_geta (ci := 12) (N := 153) fX12_1216 (by decide) so_1079.is (by decide) (c := 1157) (by decide) dX12_wordIn_68 ?_
    refine uu_iload_n dX12_wordIn_71 rfl (List.mem_of_getElem? (i := 1) rfl) ?_
    obtain ⟨v4, e5, h⟩ := uu_ob h
    refine uu_iald e5 dX12_wordIn_72 ?_
    refine uu_if_ne (tgt := 83) dX12_wordIn_73 (by decide) (fun c6 => ?_) (fun c6 => ?_)
    · replace h := uu_neg c6 h
      refine uu_aload_n dX12_wordIn_83 rfl (List.mem_of_getElem? (i := 0) rfl) ?_
      refine uu_geta (ci := 12) (N := 153) fX12_1243 (by decide) so_1079.is (by decide) (c := 1159) (by decide) dX12_wordIn_84 ?_
      refine uu_iload_n dX12_wordIn_87 rfl (List.mem_of_getElem? (i := 1) rfl) ?_
      refine uu_aload_n dX12_wordIn_88 rfl (List.mem_of_getElem? (i := 0) rfl) ?_
      refine uu_geta (ci := 12) (N := 153) fX12_1216 (by decide) so_1079.is (by decide) (c := 1157) (by decide) dX12_wordIn_89 ?_
      refine uu_iload_n dX12_wordIn_92 rfl (List.mem_of_getElem? (i := 1) rfl) ?_
      obtain ⟨v7, e8, h⟩ := uu_ob h
      refine uu_iald e8 dX12_wordIn_93 ?_
      refine uu_bipush (v := 21) dX12_wordIn_94 (by decide) ?_
      refine uu_icmp_ge (tgt := 107) dX12_wordIn_96 (by decide) (fun c9 => ?_) (fun c9 => ?_)
      · replace h := uu_pos c9 h
        refine uu_iconst (v := -1) dX12_wordIn_107 (by decide) ?_
        exact xb_X12_wordIn_108 uk  h
      · replace h := uu_neg c9 h
        refine uu_aload_n dX12_wordIn_99 rfl (List.mem_of_getElem? (i := 0) rfl) ?_
        refine uu_iload_n dX12_wordIn_100 rfl (List.mem_of_getElem? (i := 1) rfl) ?_
        obtain ⟨v10, e11, h⟩ := uu_ob h
        refine uu_cv (d1 := 5) (k := 1079) (ci := 12) (T := TX12) (N := 153) (As := [.int x1]) (st := [.int x1, .ref (B + 1159)]) (st' := [.int v10, .int x1, .ref (B + 1159)]) (xc_X12_orderOf uk  e11) so_1079.is (by decide) rfl kX12_orderOf lX12_1261 sX12_orderOf (by decide) (Nat.le_of_ble_eq_true rfl) dX12_wordIn_101 rfl ?_
        refine uu_goto (tgt := 108) dX12_wordIn_104 (by decide) ?_
        exact xb_X12_wordIn_108 uk  h
    · replace h := uu_pos c6 h
      refine uu_aload_n dX12_wordIn_76 rfl (List.mem_of_getElem? (i := 0) rfl) ?_
      refine uu_iload_n dX12_wordIn_77 rfl (List.mem_of_getElem? (i := 1) rfl) ?_
      refine uu_iload_n dX12_wordIn_78 rfl (List.mem_of_getElem? (i := 2) rfl) ?_
      obtain ⟨r12, e13, h⟩ := uu_ob h
      refine uu_cv (d1 := 0) (k := 1079) (ci := 12) (T := TX12) (N := 153) (As := [.int x1, .int x2]) (st := []) (st' := [.int (bI r12.2)]) (xc_X12_pass uk  e13) so_1079.is (by decide) rfl kX12_pass lX12_1258 sX12_pass (by decide) (Nat.le_of_ble_eq_true rfl) dX12_wordIn_79 rfl ?_
      have hr := Option.some.inj h
      subst hr
      exact uu_zret (x := bI r12.2) rfl (bI_z _) dX12_wordIn_82
  · replace h := uu_pos c3 h
    refine uu_aload_n dX12_wordIn_7 rfl (List.mem_of_getElem? (i := 0) rfl) ?_
    refine uu_geta (ci := 12) (N := 153) fX12_1216 (by decide) so_1079.is (by decide) (c := 1157) (by decide) dX12_wordIn_8 ?_
    refine uu_iload_n dX12_wordIn_11 rfl (List.mem_of_getElem? (i := 1) rfl) ?_
    obtain ⟨v14, e15, h⟩ := uu_ob h
    refine uu_iald e15 dX12_wordIn_12 ?_
    refine uu_bipush (v := 20) dX12_wordIn_13 (by decide) ?_
    refine uu_icmp_ge (tgt := 35) dX12_wordIn_15 (by decide) (fun c16 => ?_) (fun c16 => ?_)
    · replace h := uu_pos c16 h
      refine uu_lv [0, 1] (lv' := [(0, .ref (B + 1079)), (1, .int x1)]) rfl ?_
      exact xb_X12_wordIn_35 uk  h
    · replace h := uu_neg c16 h
      refine uu_aload_n dX12_wordIn_18 rfl (List.mem_of_getElem? (i := 0) rfl) ?_
      refine uu_geta (ci := 12) (N := 153) fX12_1219 (by decide) so_1079.is (by decide) (c := 1158) (by decide) dX12_wordIn_19 ?_
      refine uu_bipush (v := 20) dX12_wordIn_22 (by decide) ?_
      refine uu_iload_n dX12_wordIn_24 rfl (List.mem_of_getElem? (i := 1) rfl) ?_
      refine uu_imul dX12_wordIn_25 ?_
      refine uu_aload_n dX12_wordIn_26 rfl (List.mem_of_getElem? (i := 0) rfl) ?_
      refine uu_geta (ci := 12) (N := 153) fX12_1216 (by decide) so_1079.is (by decide) (c := 1157) (by decide) dX12_wordIn_27 ?_
      refine uu_iload_n dX12_wordIn_30 rfl (List.mem_of_getElem? (i := 1) rfl) ?_
      obtain ⟨v17, e18, h⟩ := uu_ob h
      refine uu_iald e18 dX12_wordIn_31 ?_
      refine uu_iadd dX12_wordIn_32 ?_
      refine uu_iload_n dX12_wordIn_33 rfl (List.mem_of_getElem? (i := 2) rfl) ?_
      obtain ⟨s19, e20, h⟩ := uu_ob h
      refine uu_iast e20 dX12_wordIn_34 ?_
      refine uu_lv [0, 1] (lv' := [(0, .ref (B + 1079)), (1, .int x1)]) rfl ?_
      exact xb_X12_wordIn_35 uk  h
abbrev mX12_digitIn : hM := (yX12_digitIn, cX12_digitIn, 4, (some (.boolean)))
theorem dX12_digitIn_40 : decode cX12_digitIn 40 = .ok (.iastore, 1) := by decide +kernel
theorem dX12_digitIn_41 : decode cX12_digitIn 41 = .ok (.aload_n 0, 1) := by decide +kernel
theorem dX12_digitIn_42 : decode cX12_digitIn 42 = .ok (.getfield 1273, 3) := by decide +kernel
theorem dX12_digitIn_45 : decode cX12_digitIn 45 = .ok (.iload_n 1, 1) := by decide +kernel
theorem dX12_digitIn_46 : decode cX12_digitIn 46 = .ok (.aload_n 0, 1) := by decide +kernel
theorem dX12_digitIn_47 : decode cX12_digitIn 47 = .ok (.getfield 1273, 3) := by decide +kernel
theorem dX12_digitIn_50 : decode cX12_digitIn 50 = .ok (.iload_n 1, 1) := by decide +kernel
theorem dX12_digitIn_51 : decode cX12_digitIn 51 = .ok (.iaload, 1) := by decide +kernel
theorem dX12_digitIn_52 : decode cX12_digitIn 52 = .ok (.iconst 1, 1) := by decide +kernel
theorem dX12_digitIn_53 : decode cX12_digitIn 53 = .ok (.iadd, 1) := by decide +kernel
theorem dX12_digitIn_54 : decode cX12_digitIn 54 = .ok (.iastore, 1) := by decide +kernel
theorem dX12_digitIn_55 : decode cX12_digitIn 55 = .ok (.aload_n 0, 1) := by decide +kernel
theorem dX12_digitIn_56 : decode cX12_digitIn 56 = .ok (.iload_n 1, 1) := by decide +kernel
theorem dX12_digitIn_57 : decode cX12_digitIn 57 = .ok (.iload_n 3, 1) := by decide +kernel
theorem dX12_digitIn_58 : decode cX12_digitIn 58 = .ok (.invokevirtual 1267, 3) := by decide +kernel
theorem dX12_digitIn_61 : decode cX12_digitIn 61 = .ok (.ireturn, 1) := by decide +kernel
theorem dX12_digitIn_0 : decode cX12_digitIn 0 = .ok (.aload_n 0, 1) := by decide +kernel
theorem dX12_digitIn_1 : decode cX12_digitIn 1 = .ok (.getfield 1270, 3) := by decide +kernel
theorem dX12_digitIn_4 : decode cX12_digitIn 4 = .ok (.iload_n 1, 1) := by decide +kernel
theorem dX12_digitIn_5 : decode cX12_digitIn 5 = .ok (.aload_n 0, 1) := by decide +kernel
theorem dX12_digitIn_6 : decode cX12_digitIn 6 = .ok (.getfield 1270, 3) := by decide +kernel
theorem dX12_digitIn_9 : decode cX12_digitIn 9 = .ok (.iload_n 1, 1) := by decide +kernel
theorem dX12_digitIn_10 : decode cX12_digitIn 10 = .ok (.iaload, 1) := by decide +kernel
theorem cX12_1280 : Cond.constant RX12 1280 (100000000) ∈ lw_g := h_t11 80 rfl rfl
theorem dX12_digitIn_11 : decode cX12_digitIn 11 = .ok (.ldc_w 1280, 3) := by decide +kernel
theorem dX12_digitIn_14 : decode cX12_digitIn 14 = .ok (.if_icmp .ge 20, 3) := by decide +kernel
theorem dX12_digitIn_34 : decode cX12_digitIn 34 = .ok (.aload_n 0, 1) := by decide +kernel
theorem dX12_digitIn_35 : decode cX12_digitIn 35 = .ok (.getfield 1270, 3) := by decide +kernel
theorem dX12_digitIn_38 : decode cX12_digitIn 38 = .ok (.iload_n 1, 1) := by decide +kernel
theorem dX12_digitIn_39 : decode cX12_digitIn 39 = .ok (.iaload, 1) := by decide +kernel
theorem dX12_digitIn_17 : decode cX12_digitIn 17 = .ok (.bipush 10, 2) := by decide +kernel
theorem dX12_digitIn_19 : decode cX12_digitIn 19 = .ok (.aload_n 0, 1) := by decide +kernel
theorem dX12_digitIn_20 : decode cX12_digitIn 20 = .ok (.getfield 1270, 3) := by decide +kernel
theorem dX12_digitIn_23 : decode cX12_digitIn 23 = .ok (.iload_n 1, 1) := by decide +kernel
theorem dX12_digitIn_24 : decode cX12_digitIn 24 = .ok (.iaload, 1) := by decide +kernel
theorem dX12_digitIn_25 : decode cX12_digitIn 25 = .ok (.imul, 1) := by decide +kernel
theorem dX12_digitIn_26 : decode cX12_digitIn 26 = .ok (.iload_n 2, 1) := by decide +kernel
theorem dX12_digitIn_27 : decode cX12_digitIn 27 = .ok (.iadd, 1) := by decide +kernel
theorem dX12_digitIn_28 : decode cX12_digitIn 28 = .ok (.bipush 48, 2) := by decide +kernel
theorem dX12_digitIn_30 : decode cX12_digitIn 30 = .ok (.isub, 1) := by decide +kernel
theorem dX12_digitIn_31 : decode cX12_digitIn 31 = .ok (.goto 9, 3) := by decide +kernel
def fb_X12_digitIn_40  (x1 : Int32) (x3 : Int32) (xs0 : Int32) (xs1 : Int32) (s : uS) : Option (uS × Bool) := (iput 20 s 1161 xs1 xs0).bind fun s1 => (iget 20 s1 1162 x1).bind fun v3 => (iput 20 s1 1162 x1 (v3 + 1)).bind fun s5 => (fn_X12_go x1 x3 s5).bind fun r7 => some (r7.1, r7.2)
set_option maxRecDepth 100000 in
set_option maxHeartbeats 4000000 in
theorem xb_X12_digitIn_40 {l : Launch} {D : va_G} {A : Nat → ClassId} {B : Nat} {Z : State → Heap → Prop} {vF : Value} (uk : uK B Z vF)   {x1 : Int32} {x3 : Int32} {xs0 : Int32} {xs1 : Int32} {s : uS} {r : (uS × Bool)}  (h : fb_X12_digitIn_40  x1 x3 xs0 xs1 s = some r) : GU l D A B Z mX12_digitIn 1 (r.1, some (.int (bI r.2))) s 40 [(0, .ref (B + 1079)), (1, .int x1), (3, .int x3)] [.int xs0, .int xs1, .ref (B + 1161)] := by
  unfold fb_X12_digitIn_40 at h
  obtain ⟨s1, e2, h⟩ := uu_ob h
  refine uu_iast e2 dX12_digitIn_40 ?_
  refine uu_aload_n dX12_digitIn_41 rfl (List.mem_of_getElem? (i := 0) rfl) ?_
  refine uu_geta (ci := 12) (N := 153) fX12_1273 (by decide) so_1079.is (by decide) (c := 1162) (by decide) dX12_digitIn_42 ?_
  refine uu_iload_n dX12_digitIn_45 rfl (List.mem_of_getElem? (i := 1) rfl) ?_
  refine uu_aload_n dX12_digitIn_46 rfl (List.mem_of_getElem? (i := 0) rfl) ?_
  refine uu_geta (ci := 12) (N := 153) fX12_1273 (by decide) so_1079.is (by decide) (c := 1162) (by decide) dX12_digitIn_47 ?_
  refine uu_iload_n dX12_digitIn_50 rfl (List.mem_of_getElem? (i := 1) rfl) ?_
  obtain ⟨v3, e4, h⟩ := uu_ob h
  refine uu_iald e4 dX12_digitIn_51 ?_
  refine uu_iconst (v := 1) dX12_digitIn_52 (by decide) ?_
  refine uu_iadd dX12_digitIn_53 ?_
  obtain ⟨s5, e6, h⟩ := uu_ob h
  refine uu_iast e6 dX12_digitIn_54 ?_
  refine uu_aload_n dX12_digitIn_55 rfl (List.mem_of_getElem? (i := 0) rfl) ?_
  refine uu_iload_n dX12_digitIn_56 rfl (List.mem_of_getElem? (i := 1) rfl) ?_
  refine uu_iload_n dX12_digitIn_57 rfl (List.mem_of_getElem? (i := 2) rfl) ?_
  obtain ⟨r7, e8, h⟩ := uu_ob h
  refine uu_cv (d1 := 0) (k := 1079) (ci := 12) (T := TX12) (N := 153) (As := [.int x1, .int x3]) (st := []) (st' := [.int (bI r7.2)]) (xc_X12_go uk  e8) so_1079.is (by decide) rfl kX12_go lX12_1267 sX12_go (by decide) (Nat.le_of_ble_eq_true rfl) dX12_digitIn_58 rfl ?_
  have hr := Option.some.inj h
  subst hr
  exact uu_zret (x := bI r7.2) rfl (bI_z _) dX12_digitIn_61
def fn_X12_digitIn (x1 : Int32) (x2 : Int32) (x3 : Int32) (s : uS) : Option (uS × Bool) := (iget 20 s 1161 x1).bind fun v1 => if (100000000 : Int32) ≤ v1 then ((iget 20 s 1161 x1).bind fun v4 => fb_X12_digitIn_40 x1 x3 v4 x1 s) else ((iget 20 s 1161 x1).bind fun v6 => fb_X12_digitIn_40 x1 x3 ((((10 : Int32) * v6) + x2) - 48) x1 s)
set_option maxRecDepth 100000 in
set_option maxHeartbeats 4000000 in
theorem xc_X12_digitIn {l : Launch} {D : va_G} {A : Nat → ClassId} {B : Nat} {Z : State → Heap → Prop} {vF : Value} (uk : uK B Z vF) {x1 : Int32} {x2 : Int32} {x3 : Int32} {s : uS} {r : (uS × Bool)}  (h : fn_X12_digitIn x1 x2 x3 s = some r) : CU l D A B Z 1 mX12_digitIn s [.ref (B + 1079), .int x1, .int x2, .int x3] (r.1, some (.int (bI r.2))) := by
  unfold fn_X12_digitIn at h
  refine cu_of rfl uk.1.1 (Nat.le_of_ble_eq_true rfl) ?_
  show GU _ _ _ _ _ _ _ _ _ 0 [(0, .ref (B + 1079)), (1, .int x1), (2, .int x2), (3, .int x3)] []
  refine uu_aload_n dX12_digitIn_0 rfl (List.mem_of_getElem? (i := 0) rfl) ?_
  refine uu_geta (ci := 12) (N := 153) fX12_1270 (by decide) so_1079.is (by decide) (c := 1161) (by decide) dX12_digitIn_1 ?_
  refine uu_iload_n dX12_digitIn_4 rfl (List.mem_of_getElem? (i := 1) rfl) ?_
  refine uu_aload_n dX12_digitIn_5 rfl (List.mem_of_getElem? (i := 0) rfl) ?_
  refine uu_geta (ci := 12) (N := 153) fX12_1270 (by decide) so_1079.is (by decide) (c := 1161) (by decide) dX12_digitIn_6 ?_
  refine uu_iload_n dX12_digitIn_9 rfl (List.mem_of_getElem? (i := 1) rfl) ?_
  obtain ⟨v1, e2, h⟩ := uu_ob h
  refine uu_iald e2 dX12_digitIn_10 ?_
  refine uu_ldcwI (v := 100000000) cX12_1280 dX12_digitIn_11 ?_
  refine uu_icmp_ge (tgt := 34) dX12_digitIn_14 (by decide) (fun c3 => ?_) (fun c3 => ?_)
  · replace h := uu_pos c3 h
    refine uu_aload_n dX12_digitIn_34 rfl (List.mem_of_getElem? (i := 0) rfl) ?_
    refine uu_geta (ci := 12) (N := 153) fX12_1270 (by decide) so_1079.is (by decide) (c := 1161) (by decide) dX12_digitIn_35 ?_
    refine uu_iload_n dX12_digitIn_38 rfl (List.mem_of_getElem? (i := 1) rfl) ?_
    obtain ⟨v4, e5, h⟩ := uu_ob h
    refine uu_iald e5 dX12_digitIn_39 ?_
    refine uu_lv [0, 1, 3] (lv' := [(0, .ref (B + 1079)), (1, .int x1), (3, .int x3)]) rfl ?_
    exact xb_X12_digitIn_40 uk  h
  · replace h := uu_neg c3 h
    refine uu_bipush (v := 10) dX12_digitIn_17 (by decide) ?_
    refine uu_aload_n dX12_digitIn_19 rfl (List.mem_of_getElem? (i := 0) rfl) ?_
    refine uu_geta (ci := 12) (N := 153) fX12_1270 (by decide) so_1079.is (by decide) (c := 1161) (by decide) dX12_digitIn_20 ?_
    refine uu_iload_n dX12_digitIn_23 rfl (List.mem_of_getElem? (i := 1) rfl) ?_
    obtain ⟨v6, e7, h⟩ := uu_ob h
    refine uu_iald e7 dX12_digitIn_24 ?_
    refine uu_imul dX12_digitIn_25 ?_
    refine uu_iload_n dX12_digitIn_26 rfl (List.mem_of_getElem? (i := 2) rfl) ?_
    refine uu_iadd dX12_digitIn_27 ?_
    refine uu_bipush (v := 48) dX12_digitIn_28 (by decide) ?_
    refine uu_isub dX12_digitIn_30 ?_
    refine uu_goto (tgt := 40) dX12_digitIn_31 (by decide) ?_
    refine uu_lv [0, 1, 3] (lv' := [(0, .ref (B + 1079)), (1, .int x1), (3, .int x3)]) rfl ?_
    exact xb_X12_digitIn_40 uk  h
abbrev mX12_beginIn : hM := (yX12_beginIn, cX12_beginIn, 3, (some (.boolean)))
theorem dX12_beginIn_36 : decode cX12_beginIn 36 = .ok (.aload_n 0, 1) := by decide +kernel
theorem dX12_beginIn_37 : decode cX12_beginIn 37 = .ok (.getfield 1270, 3) := by decide +kernel
theorem dX12_beginIn_40 : decode cX12_beginIn 40 = .ok (.iload_n 1, 1) := by decide +kernel
theorem dX12_beginIn_41 : decode cX12_beginIn 41 = .ok (.iconst 0, 1) := by decide +kernel
theorem dX12_beginIn_42 : decode cX12_beginIn 42 = .ok (.iastore, 1) := by decide +kernel
theorem dX12_beginIn_43 : decode cX12_beginIn 43 = .ok (.aload_n 0, 1) := by decide +kernel
theorem dX12_beginIn_44 : decode cX12_beginIn 44 = .ok (.getfield 1273, 3) := by decide +kernel
theorem dX12_beginIn_47 : decode cX12_beginIn 47 = .ok (.iload_n 1, 1) := by decide +kernel
theorem dX12_beginIn_48 : decode cX12_beginIn 48 = .ok (.iconst 0, 1) := by decide +kernel
theorem dX12_beginIn_49 : decode cX12_beginIn 49 = .ok (.iastore, 1) := by decide +kernel
theorem dX12_beginIn_50 : decode cX12_beginIn 50 = .ok (.iload_n 2, 1) := by decide +kernel
theorem dX12_beginIn_51 : decode cX12_beginIn 51 = .ok (.invokestatic 137, 3) := by decide +kernel
theorem dX12_beginIn_54 : decode cX12_beginIn 54 = .ok (.ifCond .eq 12, 3) := by decide +kernel
theorem dX12_beginIn_66 : decode cX12_beginIn 66 = .ok (.iload_n 2, 1) := by decide +kernel
theorem dX12_beginIn_67 : decode cX12_beginIn 67 = .ok (.bipush 34, 2) := by decide +kernel
theorem dX12_beginIn_69 : decode cX12_beginIn 69 = .ok (.if_icmp .ne 10, 3) := by decide +kernel
theorem dX12_beginIn_79 : decode cX12_beginIn 79 = .ok (.iload_n 2, 1) := by decide +kernel
theorem dX12_beginIn_80 : decode cX12_beginIn 80 = .ok (.bipush 123, 2) := by decide +kernel
theorem dX12_beginIn_82 : decode cX12_beginIn 82 = .ok (.if_icmp .ne 12, 3) := by decide +kernel
theorem dX12_beginIn_94 : decode cX12_beginIn 94 = .ok (.aload_n 0, 1) := by decide +kernel
theorem dX12_beginIn_95 : decode cX12_beginIn 95 = .ok (.iload_n 1, 1) := by decide +kernel
theorem dX12_beginIn_96 : decode cX12_beginIn 96 = .ok (.iload_n 2, 1) := by decide +kernel
theorem dX12_beginIn_97 : decode cX12_beginIn 97 = .ok (.invokevirtual 1258, 3) := by decide +kernel
theorem dX12_beginIn_100 : decode cX12_beginIn 100 = .ok (.ireturn, 1) := by decide +kernel
theorem dX12_beginIn_85 : decode cX12_beginIn 85 = .ok (.aload_n 0, 1) := by decide +kernel
theorem dX12_beginIn_86 : decode cX12_beginIn 86 = .ok (.iload_n 1, 1) := by decide +kernel
theorem dX12_beginIn_87 : decode cX12_beginIn 87 = .ok (.iconst 5, 1) := by decide +kernel
theorem dX12_beginIn_88 : decode cX12_beginIn 88 = .ok (.invokevirtual 1267, 3) := by decide +kernel
theorem dX12_beginIn_91 : decode cX12_beginIn 91 = .ok (.goto 9, 3) := by decide +kernel
theorem dX12_beginIn_72 : decode cX12_beginIn 72 = .ok (.aload_n 0, 1) := by decide +kernel
theorem dX12_beginIn_73 : decode cX12_beginIn 73 = .ok (.iload_n 1, 1) := by decide +kernel
theorem dX12_beginIn_74 : decode cX12_beginIn 74 = .ok (.iconst 3, 1) := by decide +kernel
theorem dX12_beginIn_75 : decode cX12_beginIn 75 = .ok (.invokevirtual 1267, 3) := by decide +kernel
theorem dX12_beginIn_78 : decode cX12_beginIn 78 = .ok (.ireturn, 1) := by decide +kernel
theorem dX12_beginIn_57 : decode cX12_beginIn 57 = .ok (.aload_n 0, 1) := by decide +kernel
theorem dX12_beginIn_58 : decode cX12_beginIn 58 = .ok (.iload_n 1, 1) := by decide +kernel
theorem dX12_beginIn_59 : decode cX12_beginIn 59 = .ok (.iload_n 2, 1) := by decide +kernel
theorem dX12_beginIn_60 : decode cX12_beginIn 60 = .ok (.bipush 10, 2) := by decide +kernel
theorem kX12_digitIn : h_ml mX12_digitIn 3 := ⟨h_t11 79 rfl rfl, h_t1 16 rfl rfl, ⟨by decide, by decide, by decide +kernel⟩, by decide⟩
theorem lX12_1276 : Cond.methodLink RX12 1276 mX12_digitIn.1 ∈ lw_g := h_t11 76 rfl rfl
theorem sX12_digitIn : Cond.instanceMethod mX12_digitIn.1 ∈ lw_g ∧ Cond.selects mX12_digitIn.1.cls mX12_digitIn.1 mX12_digitIn.1 ∈ lw_g := ⟨h_t11 78 rfl rfl, h_ins 260 rfl⟩
theorem dX12_beginIn_62 : decode cX12_beginIn 62 = .ok (.invokevirtual 1276, 3) := by decide +kernel
theorem dX12_beginIn_65 : decode cX12_beginIn 65 = .ok (.ireturn, 1) := by decide +kernel
theorem dX12_beginIn_0 : decode cX12_beginIn 0 = .ok (.aload_n 0, 1) := by decide +kernel
theorem dX12_beginIn_1 : decode cX12_beginIn 1 = .ok (.getfield 1210, 3) := by decide +kernel
theorem dX12_beginIn_4 : decode cX12_beginIn 4 = .ok (.iload_n 1, 1) := by decide +kernel
theorem dX12_beginIn_5 : decode cX12_beginIn 5 = .ok (.iaload, 1) := by decide +kernel
theorem dX12_beginIn_6 : decode cX12_beginIn 6 = .ok (.iconst 2, 1) := by decide +kernel
theorem dX12_beginIn_7 : decode cX12_beginIn 7 = .ok (.if_icmp .ge 22, 3) := by decide +kernel
theorem dX12_beginIn_29 : decode cX12_beginIn 29 = .ok (.aload_n 0, 1) := by decide +kernel
theorem dX12_beginIn_30 : decode cX12_beginIn 30 = .ok (.getfield 1213, 3) := by decide +kernel
theorem dX12_beginIn_33 : decode cX12_beginIn 33 = .ok (.iload_n 1, 1) := by decide +kernel
theorem dX12_beginIn_34 : decode cX12_beginIn 34 = .ok (.iconst 0, 1) := by decide +kernel
theorem dX12_beginIn_35 : decode cX12_beginIn 35 = .ok (.iastore, 1) := by decide +kernel
theorem dX12_beginIn_10 : decode cX12_beginIn 10 = .ok (.aload_n 0, 1) := by decide +kernel
theorem dX12_beginIn_11 : decode cX12_beginIn 11 = .ok (.getfield 1189, 3) := by decide +kernel
theorem dX12_beginIn_14 : decode cX12_beginIn 14 = .ok (.iconst 2, 1) := by decide +kernel
theorem dX12_beginIn_15 : decode cX12_beginIn 15 = .ok (.iload_n 1, 1) := by decide +kernel
theorem dX12_beginIn_16 : decode cX12_beginIn 16 = .ok (.imul, 1) := by decide +kernel
theorem dX12_beginIn_17 : decode cX12_beginIn 17 = .ok (.aload_n 0, 1) := by decide +kernel
theorem dX12_beginIn_18 : decode cX12_beginIn 18 = .ok (.getfield 1210, 3) := by decide +kernel
theorem dX12_beginIn_21 : decode cX12_beginIn 21 = .ok (.iload_n 1, 1) := by decide +kernel
theorem dX12_beginIn_22 : decode cX12_beginIn 22 = .ok (.iaload, 1) := by decide +kernel
theorem dX12_beginIn_23 : decode cX12_beginIn 23 = .ok (.iadd, 1) := by decide +kernel
theorem dX12_beginIn_24 : decode cX12_beginIn 24 = .ok (.iconst 0, 1) := by decide +kernel
theorem dX12_beginIn_25 : decode cX12_beginIn 25 = .ok (.iastore, 1) := by decide +kernel
theorem dX12_beginIn_26 : decode cX12_beginIn 26 = .ok (.goto 10, 3) := by decide +kernel
def fb_X12_beginIn_36  (x1 : Int32) (x2 : Int32) (s : uS) : Option (uS × Bool) := (iput 20 s 1161 x1 0).bind fun s1 => (iput 20 s1 1162 x1 0).bind fun s3 => (fn_X12_isDigit x2 s3).bind fun v5 => if v5 = true then ((fn_X12_digitIn x1 x2 10 s3).bind fun r16 => some (r16.1, r16.2)) else (if x2 = 34 then ((fn_X12_go x1 3 s3).bind fun r14 => some (r14.1, r14.2)) else (if x2 = 123 then ((fn_X12_go x1 5 s3).bind fun r12 => some (r12.1, r12.2)) else ((fn_X12_pass x1 x2 s3).bind fun r10 => some (r10.1, r10.2))))
set_option maxRecDepth 100000 in
set_option maxHeartbeats 4000000 in
theorem xb_X12_beginIn_36 {l : Launch} {D : va_G} {A : Nat → ClassId} {B : Nat} {Z : State → Heap → Prop} {vF : Value} (uk : uK B Z vF)   {x1 : Int32} {x2 : Int32} {s : uS} {r : (uS × Bool)}  (h : fb_X12_beginIn_36  x1 x2 s = some r) : GU l D A B Z mX12_beginIn 2 (r.1, some (.int (bI r.2))) s 36 [(0, .ref (B + 1079)), (1, .int x1), (2, .int x2)] [] := by
  unfold fb_X12_beginIn_36 at h
  refine uu_aload_n dX12_beginIn_36 rfl (List.mem_of_getElem? (i := 0) rfl) ?_
  refine uu_geta (ci := 12) (N := 153) fX12_1270 (by decide) so_1079.is (by decide) (c := 1161) (by decide) dX12_beginIn_37 ?_
  refine uu_iload_n dX12_beginIn_40 rfl (List.mem_of_getElem? (i := 1) rfl) ?_
  refine uu_iconst (v := 0) dX12_beginIn_41 (by decide) ?_
  obtain ⟨s1, e2, h⟩ := uu_ob h
  refine uu_iast e2 dX12_beginIn_42 ?_
  refine uu_aload_n dX12_beginIn_43 rfl (List.mem_of_getElem? (i := 0) rfl) ?_
  refine uu_geta (ci := 12) (N := 153) fX12_1273 (by decide) so_1079.is (by decide) (c := 1162) (by decide) dX12_beginIn_44 ?_
  refine uu_iload_n dX12_beginIn_47 rfl (List.mem_of_getElem? (i := 1) rfl) ?_
  refine uu_iconst (v := 0) dX12_beginIn_48 (by decide) ?_
  obtain ⟨s3, e4, h⟩ := uu_ob h
  refine uu_iast e4 dX12_beginIn_49 ?_
  refine uu_iload_n dX12_beginIn_50 rfl (List.mem_of_getElem? (i := 2) rfl) ?_
  obtain ⟨v5, e6, h⟩ := uu_ob h
  refine uu_cs (d1 := 0) (As := [.int x2]) (st := []) (st' := [.int (bI v5)]) (xc_X12_isDigit uk  e6) kX12_isDigit lX12_137 sX12_isDigit (by decide) (Nat.le_of_ble_eq_true rfl) dX12_beginIn_51 rfl ?_
  refine uu_ifb_eq (tgt := 66) dX12_beginIn_54 (by decide) (fun c7 => ?_) (fun c7 => ?_)
  · replace h := uu_neg c7 h
    refine uu_iload_n dX12_beginIn_66 rfl (List.mem_of_getElem? (i := 2) rfl) ?_
    refine uu_bipush (v := 34) dX12_beginIn_67 (by decide) ?_
    refine uu_icmp_ne (tgt := 79) dX12_beginIn_69 (by decide) (fun c8 => ?_) (fun c8 => ?_)
    · replace h := uu_neg c8 h
      refine uu_iload_n dX12_beginIn_79 rfl (List.mem_of_getElem? (i := 2) rfl) ?_
      refine uu_bipush (v := 123) dX12_beginIn_80 (by decide) ?_
      refine uu_icmp_ne (tgt := 94) dX12_beginIn_82 (by decide) (fun c9 => ?_) (fun c9 => ?_)
      · replace h := uu_neg c9 h
        refine uu_aload_n dX12_beginIn_94 rfl (List.mem_of_getElem? (i := 0) rfl) ?_
        refine uu_iload_n dX12_beginIn_95 rfl (List.mem_of_getElem? (i := 1) rfl) ?_
        refine uu_iload_n dX12_beginIn_96 rfl (List.mem_of_getElem? (i := 2) rfl) ?_
        obtain ⟨r10, e11, h⟩ := uu_ob h
        refine uu_cv (d1 := 0) (k := 1079) (ci := 12) (T := TX12) (N := 153) (As := [.int x1, .int x2]) (st := []) (st' := [.int (bI r10.2)]) (xc_X12_pass uk  e11) so_1079.is (by decide) rfl kX12_pass lX12_1258 sX12_pass (by decide) (Nat.le_of_ble_eq_true rfl) dX12_beginIn_97 rfl ?_
        have hr := Option.some.inj h
        subst hr
        exact uu_zret (x := bI r10.2) rfl (bI_z _) dX12_beginIn_100
      · replace h := uu_pos c9 h
        refine uu_aload_n dX12_beginIn_85 rfl (List.mem_of_getElem? (i := 0) rfl) ?_
        refine uu_iload_n dX12_beginIn_86 rfl (List.mem_of_getElem? (i := 1) rfl) ?_
        refine uu_iconst (v := 5) dX12_beginIn_87 (by decide) ?_
        obtain ⟨r12, e13, h⟩ := uu_ob h
        refine uu_cv (d1 := 0) (k := 1079) (ci := 12) (T := TX12) (N := 153) (As := [.int x1, .int 5]) (st := []) (st' := [.int (bI r12.2)]) (xc_X12_go uk  e13) so_1079.is (by decide) rfl kX12_go lX12_1267 sX12_go (by decide) (Nat.le_of_ble_eq_true rfl) dX12_beginIn_88 rfl ?_
        refine uu_goto (tgt := 100) dX12_beginIn_91 (by decide) ?_
        have hr := Option.some.inj h
        subst hr
        exact uu_zret (x := bI r12.2) rfl (bI_z _) dX12_beginIn_100
    · replace h := uu_pos c8 h
      refine uu_aload_n dX12_beginIn_72 rfl (List.mem_of_getElem? (i := 0) rfl) ?_
      refine uu_iload_n dX12_beginIn_73 rfl (List.mem_of_getElem? (i := 1) rfl) ?_
      refine uu_iconst (v := 3) dX12_beginIn_74 (by decide) ?_
      obtain ⟨r14, e15, h⟩ := uu_ob h
      refine uu_cv (d1 := 0) (k := 1079) (ci := 12) (T := TX12) (N := 153) (As := [.int x1, .int 3]) (st := []) (st' := [.int (bI r14.2)]) (xc_X12_go uk  e15) so_1079.is (by decide) rfl kX12_go lX12_1267 sX12_go (by decide) (Nat.le_of_ble_eq_true rfl) dX12_beginIn_75 rfl ?_
      have hr := Option.some.inj h
      subst hr
      exact uu_zret (x := bI r14.2) rfl (bI_z _) dX12_beginIn_78
  · replace h := uu_pos c7 h
    refine uu_aload_n dX12_beginIn_57 rfl (List.mem_of_getElem? (i := 0) rfl) ?_
    refine uu_iload_n dX12_beginIn_58 rfl (List.mem_of_getElem? (i := 1) rfl) ?_
    refine uu_iload_n dX12_beginIn_59 rfl (List.mem_of_getElem? (i := 2) rfl) ?_
    refine uu_bipush (v := 10) dX12_beginIn_60 (by decide) ?_
    obtain ⟨r16, e17, h⟩ := uu_ob h
    refine uu_cv (d1 := 1) (k := 1079) (ci := 12) (T := TX12) (N := 153) (As := [.int x1, .int x2, .int 10]) (st := []) (st' := [.int (bI r16.2)]) (xc_X12_digitIn uk  e17) so_1079.is (by decide) rfl kX12_digitIn lX12_1276 sX12_digitIn (by decide) (Nat.le_of_ble_eq_true rfl) dX12_beginIn_62 rfl ?_
    have hr := Option.some.inj h
    subst hr
    exact uu_zret (x := bI r16.2) rfl (bI_z _) dX12_beginIn_65
def fn_X12_beginIn (x1 : Int32) (x2 : Int32) (s : uS) : Option (uS × Bool) := (iget 20 s 1160 x1).bind fun v1 => if (2 : Int32) ≤ v1 then ((iput 20 s 1165 x1 0).bind fun s4 => fb_X12_beginIn_36 x1 x2 s4) else ((iget 20 s 1160 x1).bind fun v6 => (iput 20 s 1164 (((2 : Int32) * x1) + v6) 0).bind fun s8 => fb_X12_beginIn_36 x1 x2 s8)
set_option maxRecDepth 100000 in
set_option maxHeartbeats 4000000 in
theorem xc_X12_beginIn {l : Launch} {D : va_G} {A : Nat → ClassId} {B : Nat} {Z : State → Heap → Prop} {vF : Value} (uk : uK B Z vF) {x1 : Int32} {x2 : Int32} {s : uS} {r : (uS × Bool)}  (h : fn_X12_beginIn x1 x2 s = some r) : CU l D A B Z 2 mX12_beginIn s [.ref (B + 1079), .int x1, .int x2] (r.1, some (.int (bI r.2))) := by
  unfold fn_X12_beginIn at h
  refine cu_of rfl uk.1.1 (Nat.le_of_ble_eq_true rfl) ?_
  show GU _ _ _ _ _ _ _ _ _ 0 [(0, .ref (B + 1079)), (1, .int x1), (2, .int x2)] []
  refine uu_aload_n dX12_beginIn_0 rfl (List.mem_of_getElem? (i := 0) rfl) ?_
  refine uu_geta (ci := 12) (N := 153) fX12_1210 (by decide) so_1079.is (by decide) (c := 1160) (by decide) dX12_beginIn_1 ?_
  refine uu_iload_n dX12_beginIn_4 rfl (List.mem_of_getElem? (i := 1) rfl) ?_
  obtain ⟨v1, e2, h⟩ := uu_ob h
  refine uu_iald e2 dX12_beginIn_5 ?_
  refine uu_iconst (v := 2) dX12_beginIn_6 (by decide) ?_
  refine uu_icmp_ge (tgt := 29) dX12_beginIn_7 (by decide) (fun c3 => ?_) (fun c3 => ?_)
  · replace h := uu_pos c3 h
    refine uu_aload_n dX12_beginIn_29 rfl (List.mem_of_getElem? (i := 0) rfl) ?_
    refine uu_geta (ci := 12) (N := 153) fX12_1213 (by decide) so_1079.is (by decide) (c := 1165) (by decide) dX12_beginIn_30 ?_
    refine uu_iload_n dX12_beginIn_33 rfl (List.mem_of_getElem? (i := 1) rfl) ?_
    refine uu_iconst (v := 0) dX12_beginIn_34 (by decide) ?_
    obtain ⟨s4, e5, h⟩ := uu_ob h
    refine uu_iast e5 dX12_beginIn_35 ?_
    exact xb_X12_beginIn_36 uk  h
  · replace h := uu_neg c3 h
    refine uu_aload_n dX12_beginIn_10 rfl (List.mem_of_getElem? (i := 0) rfl) ?_
    refine uu_geta (ci := 12) (N := 153) fX12_1189 (by decide) so_1079.is (by decide) (c := 1164) (by decide) dX12_beginIn_11 ?_
    refine uu_iconst (v := 2) dX12_beginIn_14 (by decide) ?_
    refine uu_iload_n dX12_beginIn_15 rfl (List.mem_of_getElem? (i := 1) rfl) ?_
    refine uu_imul dX12_beginIn_16 ?_
    refine uu_aload_n dX12_beginIn_17 rfl (List.mem_of_getElem? (i := 0) rfl) ?_
    refine uu_geta (ci := 12) (N := 153) fX12_1210 (by decide) so_1079.is (by decide) (c := 1160) (by decide) dX12_beginIn_18 ?_
    refine uu_iload_n dX12_beginIn_21 rfl (List.mem_of_getElem? (i := 1) rfl) ?_
    obtain ⟨v6, e7, h⟩ := uu_ob h
    refine uu_iald e7 dX12_beginIn_22 ?_
    refine uu_iadd dX12_beginIn_23 ?_
    refine uu_iconst (v := 0) dX12_beginIn_24 (by decide) ?_
    obtain ⟨s8, e9, h⟩ := uu_ob h
    refine uu_iast e9 dX12_beginIn_25 ?_
    refine uu_goto (tgt := 36) dX12_beginIn_26 (by decide) ?_
    exact xb_X12_beginIn_36 uk  h
abbrev mX12_partDone : hM := (yX12_partDone, cX12_partDone, 2, (some (.boolean)))
theorem dX12_partDone_0 : decode cX12_partDone 0 = .ok (.aload_n 0, 1) := by decide +kernel
theorem dX12_partDone_1 : decode cX12_partDone 1 = .ok (.getfield 1210, 3) := by decide +kernel
theorem dX12_partDone_4 : decode cX12_partDone 4 = .ok (.iload_n 1, 1) := by decide +kernel
theorem dX12_partDone_5 : decode cX12_partDone 5 = .ok (.aload_n 0, 1) := by decide +kernel
theorem dX12_partDone_6 : decode cX12_partDone 6 = .ok (.getfield 1210, 3) := by decide +kernel
theorem dX12_partDone_9 : decode cX12_partDone 9 = .ok (.iload_n 1, 1) := by decide +kernel
theorem dX12_partDone_10 : decode cX12_partDone 10 = .ok (.iaload, 1) := by decide +kernel
theorem dX12_partDone_11 : decode cX12_partDone 11 = .ok (.iconst 1, 1) := by decide +kernel
theorem dX12_partDone_12 : decode cX12_partDone 12 = .ok (.iadd, 1) := by decide +kernel
theorem dX12_partDone_13 : decode cX12_partDone 13 = .ok (.iastore, 1) := by decide +kernel
theorem dX12_partDone_14 : decode cX12_partDone 14 = .ok (.aload_n 0, 1) := by decide +kernel
theorem dX12_partDone_15 : decode cX12_partDone 15 = .ok (.iload_n 1, 1) := by decide +kernel
theorem dX12_partDone_16 : decode cX12_partDone 16 = .ok (.iconst 1, 1) := by decide +kernel
theorem dX12_partDone_17 : decode cX12_partDone 17 = .ok (.invokevirtual 1267, 3) := by decide +kernel
theorem dX12_partDone_20 : decode cX12_partDone 20 = .ok (.ireturn, 1) := by decide +kernel
def fn_X12_partDone (x1 : Int32) (s : uS) : Option (uS × Bool) := (iget 20 s 1160 x1).bind fun v1 => (iput 20 s 1160 x1 (v1 + 1)).bind fun s3 => (fn_X12_go x1 1 s3).bind fun r5 => some (r5.1, r5.2)
set_option maxRecDepth 100000 in
set_option maxHeartbeats 4000000 in
theorem xc_X12_partDone {l : Launch} {D : va_G} {A : Nat → ClassId} {B : Nat} {Z : State → Heap → Prop} {vF : Value} (uk : uK B Z vF) {x1 : Int32} {s : uS} {r : (uS × Bool)}  (h : fn_X12_partDone x1 s = some r) : CU l D A B Z 1 mX12_partDone s [.ref (B + 1079), .int x1] (r.1, some (.int (bI r.2))) := by
  unfold fn_X12_partDone at h
  refine cu_of rfl uk.1.1 (Nat.le_of_ble_eq_true rfl) ?_
  show GU _ _ _ _ _ _ _ _ _ 0 [(0, .ref (B + 1079)), (1, .int x1)] []
  refine uu_aload_n dX12_partDone_0 rfl (List.mem_of_getElem? (i := 0) rfl) ?_
  refine uu_geta (ci := 12) (N := 153) fX12_1210 (by decide) so_1079.is (by decide) (c := 1160) (by decide) dX12_partDone_1 ?_
  refine uu_iload_n dX12_partDone_4 rfl (List.mem_of_getElem? (i := 1) rfl) ?_
  refine uu_aload_n dX12_partDone_5 rfl (List.mem_of_getElem? (i := 0) rfl) ?_
  refine uu_geta (ci := 12) (N := 153) fX12_1210 (by decide) so_1079.is (by decide) (c := 1160) (by decide) dX12_partDone_6 ?_
  refine uu_iload_n dX12_partDone_9 rfl (List.mem_of_getElem? (i := 1) rfl) ?_
  obtain ⟨v1, e2, h⟩ := uu_ob h
  refine uu_iald e2 dX12_partDone_10 ?_
  refine uu_iconst (v := 1) dX12_partDone_11 (by decide) ?_
  refine uu_iadd dX12_partDone_12 ?_
  obtain ⟨s3, e4, h⟩ := uu_ob h
  refine uu_iast e4 dX12_partDone_13 ?_
  refine uu_aload_n dX12_partDone_14 rfl (List.mem_of_getElem? (i := 0) rfl) ?_
  refine uu_iload_n dX12_partDone_15 rfl (List.mem_of_getElem? (i := 1) rfl) ?_
  refine uu_iconst (v := 1) dX12_partDone_16 (by decide) ?_
  obtain ⟨r5, e6, h⟩ := uu_ob h
  refine uu_cv (d1 := 0) (k := 1079) (ci := 12) (T := TX12) (N := 153) (As := [.int x1, .int 1]) (st := []) (st' := [.int (bI r5.2)]) (xc_X12_go uk  e6) so_1079.is (by decide) rfl kX12_go lX12_1267 sX12_go (by decide) (Nat.le_of_ble_eq_true rfl) dX12_partDone_17 rfl ?_
  have hr := Option.some.inj h
  subst hr
  exact uu_zret (x := bI r5.2) rfl (bI_z _) dX12_partDone_20
abbrev mX12_quotedIn : hM := (yX12_quotedIn, cX12_quotedIn, 4, (some (.boolean)))
theorem dX12_quotedIn_44 : decode cX12_quotedIn 44 = .ok (.aload_n 0, 1) := by decide +kernel
theorem dX12_quotedIn_45 : decode cX12_quotedIn 45 = .ok (.iload_n 1, 1) := by decide +kernel
theorem dX12_quotedIn_46 : decode cX12_quotedIn 46 = .ok (.iload_n 2, 1) := by decide +kernel
theorem dX12_quotedIn_47 : decode cX12_quotedIn 47 = .ok (.invokevirtual 1258, 3) := by decide +kernel
theorem dX12_quotedIn_50 : decode cX12_quotedIn 50 = .ok (.ireturn, 1) := by decide +kernel
theorem dX12_quotedIn_68 : decode cX12_quotedIn 68 = .ok (.aload_n 0, 1) := by decide +kernel
theorem dX12_quotedIn_69 : decode cX12_quotedIn 69 = .ok (.iload_n 1, 1) := by decide +kernel
theorem kX12_sizeOfPart : h_ml mX12_sizeOfPart 1 := ⟨h_t11 92 rfl rfl, h_t1 16 rfl rfl, ⟨by decide, by decide, by decide +kernel⟩, by decide⟩
theorem lX12_1284 : Cond.methodLink RX12 1284 mX12_sizeOfPart.1 ∈ lw_g := h_t11 89 rfl rfl
theorem sX12_sizeOfPart : Cond.instanceMethod mX12_sizeOfPart.1 ∈ lw_g ∧ Cond.selects mX12_sizeOfPart.1.cls mX12_sizeOfPart.1 mX12_sizeOfPart.1 ∈ lw_g := ⟨h_t11 91 rfl rfl, h_ins 263 rfl⟩
theorem dX12_quotedIn_70 : decode cX12_quotedIn 70 = .ok (.invokevirtual 1284, 3) := by decide +kernel
theorem dX12_quotedIn_73 : decode cX12_quotedIn 73 = .ok (.sipush 200, 3) := by decide +kernel
theorem dX12_quotedIn_76 : decode cX12_quotedIn 76 = .ok (.if_icmp .ne 10, 3) := by decide +kernel
theorem dX12_quotedIn_86 : decode cX12_quotedIn 86 = .ok (.aload_n 0, 1) := by decide +kernel
theorem dX12_quotedIn_87 : decode cX12_quotedIn 87 = .ok (.iload_n 1, 1) := by decide +kernel
theorem dX12_quotedIn_88 : decode cX12_quotedIn 88 = .ok (.iload_n 2, 1) := by decide +kernel
theorem kX12_partByte : h_ml mX12_partByte 2 := ⟨h_t11 96 rfl rfl, h_t1 16 rfl rfl, ⟨by decide, by decide, by decide +kernel⟩, by decide⟩
theorem lX12_1287 : Cond.methodLink RX12 1287 mX12_partByte.1 ∈ lw_g := h_t11 93 rfl rfl
theorem sX12_partByte : Cond.instanceMethod mX12_partByte.1 ∈ lw_g ∧ Cond.selects mX12_partByte.1.cls mX12_partByte.1 mX12_partByte.1 ∈ lw_g := ⟨h_t11 95 rfl rfl, h_ins 264 rfl⟩
theorem dX12_quotedIn_89 : decode cX12_quotedIn 89 = .ok (.invokevirtual 1287, 3) := by decide +kernel
theorem dX12_quotedIn_92 : decode cX12_quotedIn 92 = .ok (.aload_n 0, 1) := by decide +kernel
theorem dX12_quotedIn_93 : decode cX12_quotedIn 93 = .ok (.iload_n 1, 1) := by decide +kernel
theorem dX12_quotedIn_94 : decode cX12_quotedIn 94 = .ok (.iconst 3, 1) := by decide +kernel
theorem dX12_quotedIn_95 : decode cX12_quotedIn 95 = .ok (.invokevirtual 1267, 3) := by decide +kernel
theorem dX12_quotedIn_98 : decode cX12_quotedIn 98 = .ok (.ireturn, 1) := by decide +kernel
theorem dX12_quotedIn_79 : decode cX12_quotedIn 79 = .ok (.aload_n 0, 1) := by decide +kernel
theorem dX12_quotedIn_80 : decode cX12_quotedIn 80 = .ok (.iload_n 1, 1) := by decide +kernel
theorem dX12_quotedIn_81 : decode cX12_quotedIn 81 = .ok (.iload_n 2, 1) := by decide +kernel
theorem dX12_quotedIn_82 : decode cX12_quotedIn 82 = .ok (.invokevirtual 1258, 3) := by decide +kernel
theorem dX12_quotedIn_85 : decode cX12_quotedIn 85 = .ok (.ireturn, 1) := by decide +kernel
theorem dX12_quotedIn_32 : decode cX12_quotedIn 32 = .ok (.iload_n 2, 1) := by decide +kernel
theorem dX12_quotedIn_33 : decode cX12_quotedIn 33 = .ok (.bipush 13, 2) := by decide +kernel
theorem dX12_quotedIn_35 : decode cX12_quotedIn 35 = .ok (.if_icmp .eq 9, 3) := by decide +kernel
theorem dX12_quotedIn_38 : decode cX12_quotedIn 38 = .ok (.iload_n 2, 1) := by decide +kernel
theorem dX12_quotedIn_39 : decode cX12_quotedIn 39 = .ok (.bipush 10, 2) := by decide +kernel
theorem dX12_quotedIn_41 : decode cX12_quotedIn 41 = .ok (.if_icmp .ne 10, 3) := by decide +kernel
theorem dX12_quotedIn_51 : decode cX12_quotedIn 51 = .ok (.iload_n 2, 1) := by decide +kernel
theorem dX12_quotedIn_52 : decode cX12_quotedIn 52 = .ok (.bipush 92, 2) := by decide +kernel
theorem dX12_quotedIn_54 : decode cX12_quotedIn 54 = .ok (.if_icmp .ne 14, 3) := by decide +kernel
theorem dX12_quotedIn_57 : decode cX12_quotedIn 57 = .ok (.iload_n 3, 1) := by decide +kernel
theorem dX12_quotedIn_58 : decode cX12_quotedIn 58 = .ok (.ifCond .ne 10, 3) := by decide +kernel
theorem dX12_quotedIn_61 : decode cX12_quotedIn 61 = .ok (.aload_n 0, 1) := by decide +kernel
theorem dX12_quotedIn_62 : decode cX12_quotedIn 62 = .ok (.iload_n 1, 1) := by decide +kernel
theorem dX12_quotedIn_63 : decode cX12_quotedIn 63 = .ok (.iconst 4, 1) := by decide +kernel
theorem dX12_quotedIn_64 : decode cX12_quotedIn 64 = .ok (.invokevirtual 1267, 3) := by decide +kernel
theorem dX12_quotedIn_67 : decode cX12_quotedIn 67 = .ok (.ireturn, 1) := by decide +kernel
theorem dX12_quotedIn_15 : decode cX12_quotedIn 15 = .ok (.istore_n 3, 1) := by decide +kernel
theorem dX12_quotedIn_16 : decode cX12_quotedIn 16 = .ok (.iload_n 2, 1) := by decide +kernel
theorem dX12_quotedIn_17 : decode cX12_quotedIn 17 = .ok (.bipush 34, 2) := by decide +kernel
theorem dX12_quotedIn_19 : decode cX12_quotedIn 19 = .ok (.if_icmp .ne 13, 3) := by decide +kernel
theorem dX12_quotedIn_22 : decode cX12_quotedIn 22 = .ok (.iload_n 3, 1) := by decide +kernel
theorem dX12_quotedIn_23 : decode cX12_quotedIn 23 = .ok (.ifCond .ne 9, 3) := by decide +kernel
theorem dX12_quotedIn_26 : decode cX12_quotedIn 26 = .ok (.aload_n 0, 1) := by decide +kernel
theorem dX12_quotedIn_27 : decode cX12_quotedIn 27 = .ok (.iload_n 1, 1) := by decide +kernel
theorem kX12_partDone : h_ml mX12_partDone 1 := ⟨h_t11 88 rfl rfl, h_t1 16 rfl rfl, ⟨by decide, by decide, by decide +kernel⟩, by decide⟩
theorem lX12_1281 : Cond.methodLink RX12 1281 mX12_partDone.1 ∈ lw_g := h_t11 85 rfl rfl
theorem sX12_partDone : Cond.instanceMethod mX12_partDone.1 ∈ lw_g ∧ Cond.selects mX12_partDone.1.cls mX12_partDone.1 mX12_partDone.1 ∈ lw_g := ⟨h_t11 87 rfl rfl, h_ins 262 rfl⟩
theorem dX12_quotedIn_28 : decode cX12_quotedIn 28 = .ok (.invokevirtual 1281, 3) := by decide +kernel
theorem dX12_quotedIn_31 : decode cX12_quotedIn 31 = .ok (.ireturn, 1) := by decide +kernel
theorem dX12_quotedIn_0 : decode cX12_quotedIn 0 = .ok (.aload_n 0, 1) := by decide +kernel
theorem dX12_quotedIn_1 : decode cX12_quotedIn 1 = .ok (.getfield 1252, 3) := by decide +kernel
theorem dX12_quotedIn_4 : decode cX12_quotedIn 4 = .ok (.iload_n 1, 1) := by decide +kernel
theorem dX12_quotedIn_5 : decode cX12_quotedIn 5 = .ok (.iaload, 1) := by decide +kernel
theorem dX12_quotedIn_6 : decode cX12_quotedIn 6 = .ok (.iconst 4, 1) := by decide +kernel
theorem dX12_quotedIn_7 : decode cX12_quotedIn 7 = .ok (.if_icmp .ne 7, 3) := by decide +kernel
theorem dX12_quotedIn_14 : decode cX12_quotedIn 14 = .ok (.iconst 0, 1) := by decide +kernel
theorem dX12_quotedIn_10 : decode cX12_quotedIn 10 = .ok (.iconst 1, 1) := by decide +kernel
theorem dX12_quotedIn_11 : decode cX12_quotedIn 11 = .ok (.goto 4, 3) := by decide +kernel
def fb_X12_quotedIn_44  (x1 : Int32) (x2 : Int32) (s : uS) : Option (uS × Bool) := (fn_X12_pass x1 x2 s).bind fun r1 => some (r1.1, r1.2)
set_option maxRecDepth 100000 in
set_option maxHeartbeats 4000000 in
theorem xb_X12_quotedIn_44 {l : Launch} {D : va_G} {A : Nat → ClassId} {B : Nat} {Z : State → Heap → Prop} {vF : Value} (uk : uK B Z vF)   {x1 : Int32} {x2 : Int32} {s : uS} {r : (uS × Bool)}  (h : fb_X12_quotedIn_44  x1 x2 s = some r) : GU l D A B Z mX12_quotedIn 2 (r.1, some (.int (bI r.2))) s 44 [(0, .ref (B + 1079)), (1, .int x1), (2, .int x2)] [] := by
  unfold fb_X12_quotedIn_44 at h
  refine uu_aload_n dX12_quotedIn_44 rfl (List.mem_of_getElem? (i := 0) rfl) ?_
  refine uu_iload_n dX12_quotedIn_45 rfl (List.mem_of_getElem? (i := 1) rfl) ?_
  refine uu_iload_n dX12_quotedIn_46 rfl (List.mem_of_getElem? (i := 2) rfl) ?_
  obtain ⟨r1, e2, h⟩ := uu_ob h
  refine uu_cv (d1 := 0) (k := 1079) (ci := 12) (T := TX12) (N := 153) (As := [.int x1, .int x2]) (st := []) (st' := [.int (bI r1.2)]) (xc_X12_pass uk  e2) so_1079.is (by decide) rfl kX12_pass lX12_1258 sX12_pass (by decide) (Nat.le_of_ble_eq_true rfl) dX12_quotedIn_47 rfl ?_
  have hr := Option.some.inj h
  subst hr
  exact uu_zret (x := bI r1.2) rfl (bI_z _) dX12_quotedIn_50
def fb_X12_quotedIn_68  (x1 : Int32) (x2 : Int32) (s : uS) : Option (uS × Bool) := (fn_X12_sizeOfPart x1 s).bind fun v1 => if v1 = 200 then ((fn_X12_pass x1 x2 s).bind fun r8 => some (r8.1, r8.2)) else ((fn_X12_partByte x1 x2 s).bind fun s4 => (fn_X12_go x1 3 s4).bind fun r6 => some (r6.1, r6.2))
set_option maxRecDepth 100000 in
set_option maxHeartbeats 4000000 in
theorem xb_X12_quotedIn_68 {l : Launch} {D : va_G} {A : Nat → ClassId} {B : Nat} {Z : State → Heap → Prop} {vF : Value} (uk : uK B Z vF)   {x1 : Int32} {x2 : Int32} {s : uS} {r : (uS × Bool)}  (h : fb_X12_quotedIn_68  x1 x2 s = some r) : GU l D A B Z mX12_quotedIn 2 (r.1, some (.int (bI r.2))) s 68 [(0, .ref (B + 1079)), (1, .int x1), (2, .int x2)] [] := by
  unfold fb_X12_quotedIn_68 at h
  refine uu_aload_n dX12_quotedIn_68 rfl (List.mem_of_getElem? (i := 0) rfl) ?_
  refine uu_iload_n dX12_quotedIn_69 rfl (List.mem_of_getElem? (i := 1) rfl) ?_
  obtain ⟨v1, e2, h⟩ := uu_ob h
  refine uu_cv (d1 := 0) (k := 1079) (ci := 12) (T := TX12) (N := 153) (As := [.int x1]) (st := []) (st' := [.int v1]) (xc_X12_sizeOfPart uk  e2) so_1079.is (by decide) rfl kX12_sizeOfPart lX12_1284 sX12_sizeOfPart (by decide) (Nat.le_of_ble_eq_true rfl) dX12_quotedIn_70 rfl ?_
  refine uu_sipush (v := 200) dX12_quotedIn_73 (by decide) ?_
  refine uu_icmp_ne (tgt := 86) dX12_quotedIn_76 (by decide) (fun c3 => ?_) (fun c3 => ?_)
  · replace h := uu_neg c3 h
    refine uu_aload_n dX12_quotedIn_86 rfl (List.mem_of_getElem? (i := 0) rfl) ?_
    refine uu_iload_n dX12_quotedIn_87 rfl (List.mem_of_getElem? (i := 1) rfl) ?_
    refine uu_iload_n dX12_quotedIn_88 rfl (List.mem_of_getElem? (i := 2) rfl) ?_
    obtain ⟨s4, e5, h⟩ := uu_ob h
    refine uu_cv (d1 := 0) (k := 1079) (ci := 12) (T := TX12) (N := 153) (As := [.int x1, .int x2]) (st := []) (st' := []) (xc_X12_partByte uk  e5) so_1079.is (by decide) rfl kX12_partByte lX12_1287 sX12_partByte (by decide) (Nat.le_of_ble_eq_true rfl) dX12_quotedIn_89 rfl ?_
    refine uu_aload_n dX12_quotedIn_92 rfl (List.mem_of_getElem? (i := 0) rfl) ?_
    refine uu_iload_n dX12_quotedIn_93 rfl (List.mem_of_getElem? (i := 1) rfl) ?_
    refine uu_iconst (v := 3) dX12_quotedIn_94 (by decide) ?_
    obtain ⟨r6, e7, h⟩ := uu_ob h
    refine uu_cv (d1 := 0) (k := 1079) (ci := 12) (T := TX12) (N := 153) (As := [.int x1, .int 3]) (st := []) (st' := [.int (bI r6.2)]) (xc_X12_go uk  e7) so_1079.is (by decide) rfl kX12_go lX12_1267 sX12_go (by decide) (Nat.le_of_ble_eq_true rfl) dX12_quotedIn_95 rfl ?_
    have hr := Option.some.inj h
    subst hr
    exact uu_zret (x := bI r6.2) rfl (bI_z _) dX12_quotedIn_98
  · replace h := uu_pos c3 h
    refine uu_aload_n dX12_quotedIn_79 rfl (List.mem_of_getElem? (i := 0) rfl) ?_
    refine uu_iload_n dX12_quotedIn_80 rfl (List.mem_of_getElem? (i := 1) rfl) ?_
    refine uu_iload_n dX12_quotedIn_81 rfl (List.mem_of_getElem? (i := 2) rfl) ?_
    obtain ⟨r8, e9, h⟩ := uu_ob h
    refine uu_cv (d1 := 0) (k := 1079) (ci := 12) (T := TX12) (N := 153) (As := [.int x1, .int x2]) (st := []) (st' := [.int (bI r8.2)]) (xc_X12_pass uk  e9) so_1079.is (by decide) rfl kX12_pass lX12_1258 sX12_pass (by decide) (Nat.le_of_ble_eq_true rfl) dX12_quotedIn_82 rfl ?_
    have hr := Option.some.inj h
    subst hr
    exact uu_zret (x := bI r8.2) rfl (bI_z _) dX12_quotedIn_85
def fb_X12_quotedIn_32  (x1 : Int32) (x2 : Int32) (b3 : Bool) (s : uS) : Option (uS × Bool) := if x2 = 13 then (fb_X12_quotedIn_44 x1 x2 s) else (if x2 = 10 then (fb_X12_quotedIn_44 x1 x2 s) else (if x2 = 92 then (if b3 = true then (fb_X12_quotedIn_68 x1 x2 s) else ((fn_X12_go x1 4 s).bind fun r5 => some (r5.1, r5.2))) else (fb_X12_quotedIn_68 x1 x2 s)))
set_option maxRecDepth 100000 in
set_option maxHeartbeats 4000000 in
theorem xb_X12_quotedIn_32 {l : Launch} {D : va_G} {A : Nat → ClassId} {B : Nat} {Z : State → Heap → Prop} {vF : Value} (uk : uK B Z vF)   {x1 : Int32} {x2 : Int32} {b3 : Bool} {s : uS} {r : (uS × Bool)}  (h : fb_X12_quotedIn_32  x1 x2 b3 s = some r) : GU l D A B Z mX12_quotedIn 2 (r.1, some (.int (bI r.2))) s 32 [(0, .ref (B + 1079)), (1, .int x1), (2, .int x2), (3, .int (bI b3))] [] := by
  unfold fb_X12_quotedIn_32 at h
  refine uu_iload_n dX12_quotedIn_32 rfl (List.mem_of_getElem? (i := 2) rfl) ?_
  refine uu_bipush (v := 13) dX12_quotedIn_33 (by decide) ?_
  refine uu_icmp_eq (tgt := 44) dX12_quotedIn_35 (by decide) (fun c1 => ?_) (fun c1 => ?_)
  · replace h := uu_pos c1 h
    refine uu_lv [0, 1, 2] (lv' := [(0, .ref (B + 1079)), (1, .int x1), (2, .int x2)]) rfl ?_
    exact xb_X12_quotedIn_44 uk  h
  · replace h := uu_neg c1 h
    refine uu_iload_n dX12_quotedIn_38 rfl (List.mem_of_getElem? (i := 2) rfl) ?_
    refine uu_bipush (v := 10) dX12_quotedIn_39 (by decide) ?_
    refine uu_icmp_ne (tgt := 51) dX12_quotedIn_41 (by decide) (fun c2 => ?_) (fun c2 => ?_)
    · replace h := uu_neg c2 h
      refine uu_iload_n dX12_quotedIn_51 rfl (List.mem_of_getElem? (i := 2) rfl) ?_
      refine uu_bipush (v := 92) dX12_quotedIn_52 (by decide) ?_
      refine uu_icmp_ne (tgt := 68) dX12_quotedIn_54 (by decide) (fun c3 => ?_) (fun c3 => ?_)
      · replace h := uu_neg c3 h
        refine uu_lv [0, 1, 2] (lv' := [(0, .ref (B + 1079)), (1, .int x1), (2, .int x2)]) rfl ?_
        exact xb_X12_quotedIn_68 uk  h
      · replace h := uu_pos c3 h
        refine uu_iload_n dX12_quotedIn_57 rfl (List.mem_of_getElem? (i := 3) rfl) ?_
        refine uu_ifb_ne (tgt := 68) dX12_quotedIn_58 (by decide) (fun c4 => ?_) (fun c4 => ?_)
        · replace h := uu_pos c4 h
          refine uu_lv [0, 1, 2] (lv' := [(0, .ref (B + 1079)), (1, .int x1), (2, .int x2)]) rfl ?_
          exact xb_X12_quotedIn_68 uk  h
        · replace h := uu_neg c4 h
          refine uu_aload_n dX12_quotedIn_61 rfl (List.mem_of_getElem? (i := 0) rfl) ?_
          refine uu_iload_n dX12_quotedIn_62 rfl (List.mem_of_getElem? (i := 1) rfl) ?_
          refine uu_iconst (v := 4) dX12_quotedIn_63 (by decide) ?_
          obtain ⟨r5, e6, h⟩ := uu_ob h
          refine uu_cv (d1 := 0) (k := 1079) (ci := 12) (T := TX12) (N := 153) (As := [.int x1, .int 4]) (st := []) (st' := [.int (bI r5.2)]) (xc_X12_go uk  e6) so_1079.is (by decide) rfl kX12_go lX12_1267 sX12_go (by decide) (Nat.le_of_ble_eq_true rfl) dX12_quotedIn_64 rfl ?_
          have hr := Option.some.inj h
          subst hr
          exact uu_zret (x := bI r5.2) rfl (bI_z _) dX12_quotedIn_67
    · replace h := uu_pos c2 h
      refine uu_lv [0, 1, 2] (lv' := [(0, .ref (B + 1079)), (1, .int x1), (2, .int x2)]) rfl ?_
      exact xb_X12_quotedIn_44 uk  h
def fb_X12_quotedIn_15  (x1 : Int32) (x2 : Int32) (bs0 : Bool) (s : uS) : Option (uS × Bool) := if x2 = 34 then (if bs0 = true then (fb_X12_quotedIn_32 x1 x2 bs0 s) else ((fn_X12_partDone x1 s).bind fun r3 => some (r3.1, r3.2))) else (fb_X12_quotedIn_32 x1 x2 bs0 s)
set_option maxRecDepth 100000 in
set_option maxHeartbeats 4000000 in
theorem xb_X12_quotedIn_15 {l : Launch} {D : va_G} {A : Nat → ClassId} {B : Nat} {Z : State → Heap → Prop} {vF : Value} (uk : uK B Z vF)   {x1 : Int32} {x2 : Int32} {bs0 : Bool} {s : uS} {r : (uS × Bool)}  (h : fb_X12_quotedIn_15  x1 x2 bs0 s = some r) : GU l D A B Z mX12_quotedIn 2 (r.1, some (.int (bI r.2))) s 15 [(0, .ref (B + 1079)), (1, .int x1), (2, .int x2)] [.int (bI bs0)] := by
  unfold fb_X12_quotedIn_15 at h
  refine uu_istore_n dX12_quotedIn_15 rfl (by decide) rfl ?_
  refine uu_iload_n dX12_quotedIn_16 rfl (List.mem_of_getElem? (i := 3) rfl) ?_
  refine uu_bipush (v := 34) dX12_quotedIn_17 (by decide) ?_
  refine uu_icmp_ne (tgt := 32) dX12_quotedIn_19 (by decide) (fun c1 => ?_) (fun c1 => ?_)
  · replace h := uu_neg c1 h
    refine uu_lv [1, 2, 3, 0] (lv' := [(0, .ref (B + 1079)), (1, .int x1), (2, .int x2), (3, .int (bI bs0))]) rfl ?_
    exact xb_X12_quotedIn_32 uk  h
  · replace h := uu_pos c1 h
    refine uu_iload_n dX12_quotedIn_22 rfl (List.mem_of_getElem? (i := 0) rfl) ?_
    refine uu_ifb_ne (tgt := 32) dX12_quotedIn_23 (by decide) (fun c2 => ?_) (fun c2 => ?_)
    · replace h := uu_pos c2 h
      refine uu_lv [1, 2, 3, 0] (lv' := [(0, .ref (B + 1079)), (1, .int x1), (2, .int x2), (3, .int (bI bs0))]) rfl ?_
      exact xb_X12_quotedIn_32 uk  h
    · replace h := uu_neg c2 h
      refine uu_aload_n dX12_quotedIn_26 rfl (List.mem_of_getElem? (i := 1) rfl) ?_
      refine uu_iload_n dX12_quotedIn_27 rfl (List.mem_of_getElem? (i := 2) rfl) ?_
      obtain ⟨r3, e4, h⟩ := uu_ob h
      refine uu_cv (d1 := 1) (k := 1079) (ci := 12) (T := TX12) (N := 153) (As := [.int x1]) (st := []) (st' := [.int (bI r3.2)]) (xc_X12_partDone uk  e4) so_1079.is (by decide) rfl kX12_partDone lX12_1281 sX12_partDone (by decide) (Nat.le_of_ble_eq_true rfl) dX12_quotedIn_28 rfl ?_
      have hr := Option.some.inj h
      subst hr
      exact uu_zret (x := bI r3.2) rfl (bI_z _) dX12_quotedIn_31
def fn_X12_quotedIn (x1 : Int32) (x2 : Int32) (s : uS) : Option (uS × Bool) := (iget 20 s 1156 x1).bind fun v1 => if v1 = 4 then (fb_X12_quotedIn_15 x1 x2 true s) else (fb_X12_quotedIn_15 x1 x2 false s)
set_option maxRecDepth 100000 in
set_option maxHeartbeats 4000000 in
theorem xc_X12_quotedIn {l : Launch} {D : va_G} {A : Nat → ClassId} {B : Nat} {Z : State → Heap → Prop} {vF : Value} (uk : uK B Z vF) {x1 : Int32} {x2 : Int32} {s : uS} {r : (uS × Bool)}  (h : fn_X12_quotedIn x1 x2 s = some r) : CU l D A B Z 2 mX12_quotedIn s [.ref (B + 1079), .int x1, .int x2] (r.1, some (.int (bI r.2))) := by
  unfold fn_X12_quotedIn at h
  refine cu_of rfl uk.1.1 (Nat.le_of_ble_eq_true rfl) ?_
  show GU _ _ _ _ _ _ _ _ _ 0 [(0, .ref (B + 1079)), (1, .int x1), (2, .int x2)] []
  refine uu_aload_n dX12_quotedIn_0 rfl (List.mem_of_getElem? (i := 0) rfl) ?_
  refine uu_geta (ci := 12) (N := 153) fX12_1252 (by decide) so_1079.is (by decide) (c := 1156) (by decide) dX12_quotedIn_1 ?_
  refine uu_iload_n dX12_quotedIn_4 rfl (List.mem_of_getElem? (i := 1) rfl) ?_
  obtain ⟨v1, e2, h⟩ := uu_ob h
  refine uu_iald e2 dX12_quotedIn_5 ?_
  refine uu_iconst (v := 4) dX12_quotedIn_6 (by decide) ?_
  refine uu_icmp_ne (tgt := 14) dX12_quotedIn_7 (by decide) (fun c3 => ?_) (fun c3 => ?_)
  · replace h := uu_neg c3 h
    refine uu_iconst (v := 0) dX12_quotedIn_14 (by decide) ?_
    exact xb_X12_quotedIn_15 uk  h
  · replace h := uu_pos c3 h
    refine uu_iconst (v := 1) dX12_quotedIn_10 (by decide) ?_
    refine uu_goto (tgt := 15) dX12_quotedIn_11 (by decide) ?_
    exact xb_X12_quotedIn_15 uk  h
