def fn_X12_start  (s : uS) : Option (uS × Int32) := if (s.I 1079 0) = 0 then (some (wI s 1079 0 1, (wI s 1079 0 1).I 1079 2)) else (some (s, (-1 : Int32)))
set_option maxRecDepth 100000 in
set_option maxHeartbeats 4000000 in
theorem xc_X12_start {l : Launch} {D : va_G} {A : Nat → ClassId} {B : Nat} {Z : State → Heap → Prop} {vF : Value} (uk : uK B Z vF)  {s : uS} {r : (uS × Int32)}  (h : fn_X12_start  s = some r) : CU l D A B Z 0 mX12_start s [.ref (B + 1079)] (r.1, some (.int r.2)) := by
  unfold fn_X12_start at h
  refine cu_of rfl uk.1.1 (Nat.le_of_ble_eq_true rfl) ?_
  show GU _ _ _ _ _ _ _ _ _ 0 [(0, .ref (B + 1079))] []
  refine uu_aload_n dX12_start_0 rfl (List.mem_of_getElem? (i := 0) rfl) ?_
  refine uu_geti (ci := 12) (N := 153) fX12_7 (by decide) so_1079.is (by decide) (by decide) dX12_start_1 ?_
  refine uu_if_eq (tgt := 9) dX12_start_4 (by decide) (fun c1 => ?_) (fun c1 => ?_)
  · replace h := uu_pos c1 h
    refine uu_aload_n dX12_start_9 rfl (List.mem_of_getElem? (i := 0) rfl) ?_
    refine uu_iconst (v := 1) dX12_start_10 (by decide) ?_
    refine uu_puti (ft := .boolean) (ci := 12) (N := 153) fX12_7 ptX12 (Or.inl rfl) (by decide) so_1079.is (by decide) (by decide) (by decide +kernel) rfl rfl dX12_start_11 ?_
    refine uu_aload_n dX12_start_14 rfl (List.mem_of_getElem? (i := 0) rfl) ?_
    refine uu_geti (ci := 12) (N := 153) fX12_18 (by decide) so_1079.is (by decide) (by decide) dX12_start_15 ?_
    have hr := Option.some.inj h
    subst hr
    exact uu_iret rfl dX12_start_18
  · replace h := uu_neg c1 h
    refine uu_iconst (v := -1) dX12_start_7 (by decide) ?_
    have hr := Option.some.inj h
    subst hr
    exact uu_iret rfl dX12_start_8
def fn_X12_isBox (x1 : Int32) (x2 : Int32) (s : uS) : Option Bool := if x1 < 0 then (some false) else (if (4 : Int32) ≤ x1 then (some false) else (if x2 < 0 then (some false) else ((iget 20 s 1126 x1).bind fun v4 => if v4 ≤ x2 then (some false) else (some true))))
set_option maxRecDepth 100000 in
set_option maxHeartbeats 4000000 in
theorem xc_X12_isBox {l : Launch} {D : va_G} {A : Nat → ClassId} {B : Nat} {Z : State → Heap → Prop} {vF : Value} (uk : uK B Z vF) {x1 : Int32} {x2 : Int32} {s : uS} {r : Bool}  (h : fn_X12_isBox x1 x2 s = some r) : CU l D A B Z 0 mX12_isBox s [.ref (B + 1079), .int x1, .int x2] (s, some (.int (bI r))) := by
  unfold fn_X12_isBox at h
  refine cu_of rfl uk.1.1 (Nat.le_of_ble_eq_true rfl) ?_
  show GU _ _ _ _ _ _ _ _ _ 0 [(0, .ref (B + 1079)), (1, .int x1), (2, .int x2)] []
  refine uu_iload_n dX12_isBox_0 rfl (List.mem_of_getElem? (i := 1) rfl) ?_
  refine uu_if_lt (tgt := 27) dX12_isBox_1 (by decide) (fun c1 => ?_) (fun c1 => ?_)
  · replace h := uu_pos c1 h
    refine uu_iconst (v := 0) dX12_isBox_27 (by decide) ?_
    have hr := Option.some.inj h
    subst hr
    exact uu_zret (x := bI false) rfl (bI_z _) dX12_isBox_28
  · replace h := uu_neg c1 h
    refine uu_iload_n dX12_isBox_4 rfl (List.mem_of_getElem? (i := 1) rfl) ?_
    refine uu_iconst (v := 4) dX12_isBox_5 (by decide) ?_
    refine uu_icmp_ge (tgt := 27) dX12_isBox_6 (by decide) (fun c2 => ?_) (fun c2 => ?_)
    · replace h := uu_pos c2 h
      refine uu_iconst (v := 0) dX12_isBox_27 (by decide) ?_
      have hr := Option.some.inj h
      subst hr
      exact uu_zret (x := bI false) rfl (bI_z _) dX12_isBox_28
    · replace h := uu_neg c2 h
      refine uu_iload_n dX12_isBox_9 rfl (List.mem_of_getElem? (i := 2) rfl) ?_
      refine uu_if_lt (tgt := 27) dX12_isBox_10 (by decide) (fun c3 => ?_) (fun c3 => ?_)
      · replace h := uu_pos c3 h
        refine uu_iconst (v := 0) dX12_isBox_27 (by decide) ?_
        have hr := Option.some.inj h
        subst hr
        exact uu_zret (x := bI false) rfl (bI_z _) dX12_isBox_28
      · replace h := uu_neg c3 h
        refine uu_iload_n dX12_isBox_13 rfl (List.mem_of_getElem? (i := 2) rfl) ?_
        refine uu_aload_n dX12_isBox_14 rfl (List.mem_of_getElem? (i := 0) rfl) ?_
        refine uu_geta (ci := 12) (N := 153) fX12_796 (by decide) so_1079.is (by decide) (c := 1126) (by decide) dX12_isBox_15 ?_
        refine uu_iload_n dX12_isBox_18 rfl (List.mem_of_getElem? (i := 1) rfl) ?_
        obtain ⟨v4, e5, h⟩ := uu_ob h
        refine uu_iald e5 dX12_isBox_19 ?_
        refine uu_icmp_ge (tgt := 27) dX12_isBox_20 (by decide) (fun c6 => ?_) (fun c6 => ?_)
        · replace h := uu_pos c6 h
          refine uu_iconst (v := 0) dX12_isBox_27 (by decide) ?_
          have hr := Option.some.inj h
          subst hr
          exact uu_zret (x := bI false) rfl (bI_z _) dX12_isBox_28
        · replace h := uu_neg c6 h
          refine uu_iconst (v := 1) dX12_isBox_23 (by decide) ?_
          refine uu_goto (tgt := 28) dX12_isBox_24 (by decide) ?_
          have hr := Option.some.inj h
          subst hr
          exact uu_zret (x := bI true) rfl (bI_z _) dX12_isBox_28
def fb_X12_messages_16 (K16 : Int32 → Int32 → Int32 → Int32 → uS → Option Int32) (x1 : Int32) (x2 : Int32) (x3 : Int32) (x4 : Int32) (s : uS) : Option Int32 := if ((s.I 1079 70) + (s.I 1079 71)) ≤ x4 then (some x3) else ((iget 20 s 1119 x4).bind fun v2 => if v2 = x1 then ((iget 20 s 1120 x4).bind fun v5 => if v5 = x2 then (K16 x1 x2 (x3 + 1) (x4 + 1) s) else (K16 x1 x2 x3 (x4 + 1) s)) else (K16 x1 x2 x3 (x4 + 1) s))
set_option maxRecDepth 100000 in
set_option maxHeartbeats 4000000 in
theorem xb_X12_messages_16 {l : Launch} {D : va_G} {A : Nat → ClassId} {B : Nat} {Z : State → Heap → Prop} {vF : Value} (uk : uK B Z vF) {K16 : Int32 → Int32 → Int32 → Int32 → uS → Option Int32} (hK16 : ∀ (x1 : Int32) (x2 : Int32) (x3 : Int32) (x4 : Int32)  (s : uS) (r : Int32), K16 x1 x2 x3 x4 s = some r → GU l D A B Z mX12_messages 1 (s, some (.int r)) s 16 [(0, .ref (B + 1079)), (1, .int x1), (2, .int x2), (3, .int x3), (4, .int x4)] []) {x1 : Int32} {x2 : Int32} {x3 : Int32} {x4 : Int32} {s : uS} {r : Int32}  (h : fb_X12_messages_16 K16 x1 x2 x3 x4 s = some r) : GU l D A B Z mX12_messages 1 (s, some (.int r)) s 16 [(0, .ref (B + 1079)), (1, .int x1), (2, .int x2), (3, .int x3), (4, .int x4)] [] := by
  unfold fb_X12_messages_16 at h
  refine uu_iload dX12_messages_16 (List.mem_of_getElem? (i := 4) rfl) ?_
  refine uu_aload_n dX12_messages_18 rfl (List.mem_of_getElem? (i := 0) rfl) ?_
  refine uu_geti (ci := 12) (N := 153) fX12_563 (by decide) so_1079.is (by decide) (by decide) dX12_messages_19 ?_
  refine uu_aload_n dX12_messages_22 rfl (List.mem_of_getElem? (i := 0) rfl) ?_
  refine uu_geti (ci := 12) (N := 153) fX12_566 (by decide) so_1079.is (by decide) (by decide) dX12_messages_23 ?_
  refine uu_iadd dX12_messages_26 ?_
  refine uu_icmp_ge (tgt := 66) dX12_messages_27 (by decide) (fun c1 => ?_) (fun c1 => ?_)
  · replace h := uu_pos c1 h
    refine uu_iload_n dX12_messages_66 rfl (List.mem_of_getElem? (i := 3) rfl) ?_
    have hr := Option.some.inj h
    subst hr
    exact uu_iret rfl dX12_messages_67
  · replace h := uu_neg c1 h
    refine uu_aload_n dX12_messages_30 rfl (List.mem_of_getElem? (i := 0) rfl) ?_
    refine uu_geta (ci := 12) (N := 153) fX12_569 (by decide) so_1079.is (by decide) (c := 1119) (by decide) dX12_messages_31 ?_
    refine uu_iload dX12_messages_34 (List.mem_of_getElem? (i := 4) rfl) ?_
    obtain ⟨v2, e3, h⟩ := uu_ob h
    refine uu_iald e3 dX12_messages_36 ?_
    refine uu_iload_n dX12_messages_37 rfl (List.mem_of_getElem? (i := 1) rfl) ?_
    refine uu_icmp_ne (tgt := 58) dX12_messages_38 (by decide) (fun c4 => ?_) (fun c4 => ?_)
    · replace h := uu_neg c4 h
      refine uu_iload_n dX12_messages_58 rfl (List.mem_of_getElem? (i := 3) rfl) ?_
      refine uu_istore_n dX12_messages_59 rfl (by decide) rfl ?_
      refine uu_iinc (v := x4 + 1) dX12_messages_60 (k := 4) rfl rfl (by decide) rfl ?_
      refine uu_goto (tgt := 16) dX12_messages_63 (by decide) ?_
      refine uu_lv [2, 3, 4, 1, 0] (lv' := [(0, .ref (B + 1079)), (1, .int x1), (2, .int x2), (3, .int x3), (4, .int (x4 + 1))]) rfl ?_
      exact hK16 x1 x2 x3 (x4 + 1) _ _ h
    · replace h := uu_pos c4 h
      refine uu_aload_n dX12_messages_41 rfl (List.mem_of_getElem? (i := 0) rfl) ?_
      refine uu_geta (ci := 12) (N := 153) fX12_572 (by decide) so_1079.is (by decide) (c := 1120) (by decide) dX12_messages_42 ?_
      refine uu_iload dX12_messages_45 (List.mem_of_getElem? (i := 4) rfl) ?_
      obtain ⟨v5, e6, h⟩ := uu_ob h
      refine uu_iald e6 dX12_messages_47 ?_
      refine uu_iload_n dX12_messages_48 rfl (List.mem_of_getElem? (i := 2) rfl) ?_
      refine uu_icmp_ne (tgt := 58) dX12_messages_49 (by decide) (fun c7 => ?_) (fun c7 => ?_)
      · replace h := uu_neg c7 h
        refine uu_iload_n dX12_messages_58 rfl (List.mem_of_getElem? (i := 3) rfl) ?_
        refine uu_istore_n dX12_messages_59 rfl (by decide) rfl ?_
        refine uu_iinc (v := x4 + 1) dX12_messages_60 (k := 4) rfl rfl (by decide) rfl ?_
        refine uu_goto (tgt := 16) dX12_messages_63 (by decide) ?_
        refine uu_lv [2, 3, 4, 1, 0] (lv' := [(0, .ref (B + 1079)), (1, .int x1), (2, .int x2), (3, .int x3), (4, .int (x4 + 1))]) rfl ?_
        exact hK16 x1 x2 x3 (x4 + 1) _ _ h
      · replace h := uu_pos c7 h
        refine uu_iload_n dX12_messages_52 rfl (List.mem_of_getElem? (i := 3) rfl) ?_
        refine uu_iconst (v := 1) dX12_messages_53 (by decide) ?_
        refine uu_iadd dX12_messages_54 ?_
        refine uu_goto (tgt := 59) dX12_messages_55 (by decide) ?_
        refine uu_istore_n dX12_messages_59 rfl (by decide) rfl ?_
        refine uu_iinc (v := x4 + 1) dX12_messages_60 (k := 4) rfl rfl (by decide) rfl ?_
        refine uu_goto (tgt := 16) dX12_messages_63 (by decide) ?_
        refine uu_lv [2, 3, 4, 1, 0] (lv' := [(0, .ref (B + 1079)), (1, .int x1), (2, .int x2), (3, .int (x3 + 1)), (4, .int (x4 + 1))]) rfl ?_
        exact hK16 x1 x2 (x3 + 1) (x4 + 1) _ _ h
def fn_X12_messages_16  : Nat → Int32 → Int32 → Int32 → Int32 → uS → Option Int32
  | 0 => fun _ _ _ _ _ => none
  | n + 1 => fb_X12_messages_16 (fn_X12_messages_16  n)
set_option maxRecDepth 100000 in
set_option maxHeartbeats 4000000 in
theorem xn_X12_messages_16 {l : Launch} {D : va_G} {A : Nat → ClassId} {B : Nat} {Z : State → Heap → Prop} {vF : Value} (uk : uK B Z vF)   : ∀ (n : Nat) (x1 : Int32) (x2 : Int32) (x3 : Int32) (x4 : Int32)  (s : uS) (r : Int32), fn_X12_messages_16  n x1 x2 x3 x4 s = some r → GU l D A B Z mX12_messages 1 (s, some (.int r)) s 16 [(0, .ref (B + 1079)), (1, .int x1), (2, .int x2), (3, .int x3), (4, .int x4)] [] := by
  intro n
  induction n with
  | zero => intro x1 x2 x3 x4 s r h
            cases h
  | succ n ih => intro x1 x2 x3 x4 s r h
                 exact xb_X12_messages_16 uk ih  h
def fn_X12_messages (x1 : Int32) (x2 : Int32) (s : uS) : Option Int32 := (fn_X12_isBox x1 x2 s).bind fun v1 => if v1 = true then (fn_X12_messages_16 uFu x1 x2 0 0 s) else (some (-1 : Int32))
set_option maxRecDepth 100000 in
set_option maxHeartbeats 4000000 in
theorem xc_X12_messages {l : Launch} {D : va_G} {A : Nat → ClassId} {B : Nat} {Z : State → Heap → Prop} {vF : Value} (uk : uK B Z vF) {x1 : Int32} {x2 : Int32} {s : uS} {r : Int32}  (h : fn_X12_messages x1 x2 s = some r) : CU l D A B Z 1 mX12_messages s [.ref (B + 1079), .int x1, .int x2] (s, some (.int r)) := by
  unfold fn_X12_messages at h
  refine cu_of rfl uk.1.1 (Nat.le_of_ble_eq_true rfl) ?_
  show GU _ _ _ _ _ _ _ _ _ 0 [(0, .ref (B + 1079)), (1, .int x1), (2, .int x2)] []
  refine uu_aload_n dX12_messages_0 rfl (List.mem_of_getElem? (i := 0) rfl) ?_
  refine uu_iload_n dX12_messages_1 rfl (List.mem_of_getElem? (i := 1) rfl) ?_
  refine uu_iload_n dX12_messages_2 rfl (List.mem_of_getElem? (i := 2) rfl) ?_
  obtain ⟨v1, e2, h⟩ := uu_ob h
  refine uu_cv (d1 := 0) (k := 1079) (ci := 12) (T := TX12) (N := 153) (As := [.int x1, .int x2]) (st := []) (st' := [.int (bI v1)]) (xc_X12_isBox uk  e2) so_1079.is (by decide) rfl kX12_isBox lX12_1389 sX12_isBox (by decide) (Nat.le_of_ble_eq_true rfl) dX12_messages_3 rfl ?_
  refine uu_ifb_ne (tgt := 11) dX12_messages_6 (by decide) (fun c3 => ?_) (fun c3 => ?_)
  · replace h := uu_pos c3 h
    refine uu_iconst (v := 0) dX12_messages_11 (by decide) ?_
    refine uu_istore_n dX12_messages_12 rfl (by decide) rfl ?_
    refine uu_iconst (v := 0) dX12_messages_13 (by decide) ?_
    refine uu_istore dX12_messages_14 (by decide) rfl ?_
    refine uu_lv [2, 3, 4, 1, 0] (lv' := [(0, .ref (B + 1079)), (1, .int x1), (2, .int x2), (3, .int 0), (4, .int 0)]) rfl ?_
    exact xn_X12_messages_16 uk  _ _ _ _ _ _ _ h
  · replace h := uu_neg c3 h
    refine uu_iconst (v := -1) dX12_messages_9 (by decide) ?_
    have hr := Option.some.inj h
    subst hr
    exact uu_iret rfl dX12_messages_10
def fb_X12_message_32 (K32 : Int32 → Int32 → Int32 → Int32 → Int32 → uS → Option Int32) (x1 : Int32) (x2 : Int32) (x4 : Int32) (x5 : Int32) (x6 : Int32) (s : uS) : Option Int32 := if ((s.I 1079 70) + (s.I 1079 71)) ≤ x6 then (some (-1 : Int32)) else ((iget 20 s 1119 x6).bind fun v2 => if v2 = x1 then ((iget 20 s 1120 x6).bind fun v5 => if v5 = x2 then (if x5 = 0 then (if x4 = 0 then ((iget 20 s 1122 x6).bind fun v13 => some v13) else (if x4 = 1 then ((iget 20 s 1123 x6).bind fun v11 => some v11) else (some x6))) else (K32 x1 x2 x4 (x5 - 1) (x6 + 1) s)) else (K32 x1 x2 x4 x5 (x6 + 1) s)) else (K32 x1 x2 x4 x5 (x6 + 1) s))
set_option maxRecDepth 100000 in
set_option maxHeartbeats 4000000 in
theorem xb_X12_message_32 {l : Launch} {D : va_G} {A : Nat → ClassId} {B : Nat} {Z : State → Heap → Prop} {vF : Value} (uk : uK B Z vF) {K32 : Int32 → Int32 → Int32 → Int32 → Int32 → uS → Option Int32} (hK32 : ∀ (x1 : Int32) (x2 : Int32) (x4 : Int32) (x5 : Int32) (x6 : Int32)  (s : uS) (r : Int32), K32 x1 x2 x4 x5 x6 s = some r → GU l D A B Z mX12_message 1 (s, some (.int r)) s 32 [(0, .ref (B + 1079)), (1, .int x1), (2, .int x2), (4, .int x4), (5, .int x5), (6, .int x6)] []) {x1 : Int32} {x2 : Int32} {x4 : Int32} {x5 : Int32} {x6 : Int32} {s : uS} {r : Int32}  (h : fb_X12_message_32 K32 x1 x2 x4 x5 x6 s = some r) : GU l D A B Z mX12_message 1 (s, some (.int r)) s 32 [(0, .ref (B + 1079)), (1, .int x1), (2, .int x2), (4, .int x4), (5, .int x5), (6, .int x6)] [] := by
  unfold fb_X12_message_32 at h
  refine uu_iload dX12_message_32 (List.mem_of_getElem? (i := 5) rfl) ?_
  refine uu_aload_n dX12_message_34 rfl (List.mem_of_getElem? (i := 0) rfl) ?_
  refine uu_geti (ci := 12) (N := 153) fX12_563 (by decide) so_1079.is (by decide) (by decide) dX12_message_35 ?_
  refine uu_aload_n dX12_message_38 rfl (List.mem_of_getElem? (i := 0) rfl) ?_
  refine uu_geti (ci := 12) (N := 153) fX12_566 (by decide) so_1079.is (by decide) (by decide) dX12_message_39 ?_
  refine uu_iadd dX12_message_42 ?_
  refine uu_icmp_ge (tgt := 122) dX12_message_43 (by decide) (fun c1 => ?_) (fun c1 => ?_)
  · replace h := uu_pos c1 h
    refine uu_iconst (v := -1) dX12_message_122 (by decide) ?_
    have hr := Option.some.inj h
    subst hr
    exact uu_iret rfl dX12_message_123
  · replace h := uu_neg c1 h
    refine uu_aload_n dX12_message_46 rfl (List.mem_of_getElem? (i := 0) rfl) ?_
    refine uu_geta (ci := 12) (N := 153) fX12_569 (by decide) so_1079.is (by decide) (c := 1119) (by decide) dX12_message_47 ?_
    refine uu_iload dX12_message_50 (List.mem_of_getElem? (i := 5) rfl) ?_
    obtain ⟨v2, e3, h⟩ := uu_ob h
    refine uu_iald e3 dX12_message_52 ?_
    refine uu_iload_n dX12_message_53 rfl (List.mem_of_getElem? (i := 1) rfl) ?_
    refine uu_icmp_ne (tgt := 116) dX12_message_54 (by decide) (fun c4 => ?_) (fun c4 => ?_)
    · replace h := uu_neg c4 h
      refine uu_iinc (v := x6 + 1) dX12_message_116 (k := 5) rfl rfl (by decide) rfl ?_
      refine uu_goto (tgt := 32) dX12_message_119 (by decide) ?_
      refine uu_lv [1, 2, 3, 4, 5, 0] (lv' := [(0, .ref (B + 1079)), (1, .int x1), (2, .int x2), (4, .int x4), (5, .int x5), (6, .int (x6 + 1))]) rfl ?_
      exact hK32 x1 x2 x4 x5 (x6 + 1) _ _ h
    · replace h := uu_pos c4 h
      refine uu_aload_n dX12_message_57 rfl (List.mem_of_getElem? (i := 0) rfl) ?_
      refine uu_geta (ci := 12) (N := 153) fX12_572 (by decide) so_1079.is (by decide) (c := 1120) (by decide) dX12_message_58 ?_
      refine uu_iload dX12_message_61 (List.mem_of_getElem? (i := 5) rfl) ?_
      obtain ⟨v5, e6, h⟩ := uu_ob h
      refine uu_iald e6 dX12_message_63 ?_
      refine uu_iload_n dX12_message_64 rfl (List.mem_of_getElem? (i := 2) rfl) ?_
      refine uu_icmp_eq (tgt := 71) dX12_message_65 (by decide) (fun c7 => ?_) (fun c7 => ?_)
      · replace h := uu_pos c7 h
        refine uu_iload dX12_message_71 (List.mem_of_getElem? (i := 4) rfl) ?_
        refine uu_if_ne (tgt := 110) dX12_message_73 (by decide) (fun c8 => ?_) (fun c8 => ?_)
        · replace h := uu_neg c8 h
          refine uu_iload dX12_message_110 (List.mem_of_getElem? (i := 4) rfl) ?_
          refine uu_iconst (v := 1) dX12_message_112 (by decide) ?_
          refine uu_isub dX12_message_113 ?_
          refine uu_istore dX12_message_114 (by decide) rfl ?_
          refine uu_iinc (v := x6 + 1) dX12_message_116 (k := 5) rfl rfl (by decide) rfl ?_
          refine uu_goto (tgt := 32) dX12_message_119 (by decide) ?_
          refine uu_lv [2, 3, 4, 5, 1, 0] (lv' := [(0, .ref (B + 1079)), (1, .int x1), (2, .int x2), (4, .int x4), (5, .int (x5 - 1)), (6, .int (x6 + 1))]) rfl ?_
          exact hK32 x1 x2 x4 (x5 - 1) (x6 + 1) _ _ h
        · replace h := uu_pos c8 h
          refine uu_iload dX12_message_76 (List.mem_of_getElem? (i := 3) rfl) ?_
          refine uu_if_ne (tgt := 91) dX12_message_78 (by decide) (fun c9 => ?_) (fun c9 => ?_)
          · replace h := uu_neg c9 h
            refine uu_iload dX12_message_91 (List.mem_of_getElem? (i := 3) rfl) ?_
            refine uu_iconst (v := 1) dX12_message_93 (by decide) ?_
            refine uu_icmp_ne (tgt := 107) dX12_message_94 (by decide) (fun c10 => ?_) (fun c10 => ?_)
            · replace h := uu_neg c10 h
              refine uu_iload dX12_message_107 (List.mem_of_getElem? (i := 5) rfl) ?_
              have hr := Option.some.inj h
              subst hr
              exact uu_iret rfl dX12_message_109
            · replace h := uu_pos c10 h
              refine uu_aload_n dX12_message_97 rfl (List.mem_of_getElem? (i := 0) rfl) ?_
              refine uu_geta (ci := 12) (N := 153) fX12_581 (by decide) so_1079.is (by decide) (c := 1123) (by decide) dX12_message_98 ?_
              refine uu_iload dX12_message_101 (List.mem_of_getElem? (i := 5) rfl) ?_
              obtain ⟨v11, e12, h⟩ := uu_ob h
              refine uu_iald e12 dX12_message_103 ?_
              refine uu_goto (tgt := 109) dX12_message_104 (by decide) ?_
              have hr := Option.some.inj h
              subst hr
              exact uu_iret rfl dX12_message_109
          · replace h := uu_pos c9 h
            refine uu_aload_n dX12_message_81 rfl (List.mem_of_getElem? (i := 0) rfl) ?_
            refine uu_geta (ci := 12) (N := 153) fX12_578 (by decide) so_1079.is (by decide) (c := 1122) (by decide) dX12_message_82 ?_
            refine uu_iload dX12_message_85 (List.mem_of_getElem? (i := 5) rfl) ?_
            obtain ⟨v13, e14, h⟩ := uu_ob h
            refine uu_iald e14 dX12_message_87 ?_
            refine uu_goto (tgt := 109) dX12_message_88 (by decide) ?_
            have hr := Option.some.inj h
            subst hr
            exact uu_iret rfl dX12_message_109
      · replace h := uu_neg c7 h
        refine uu_goto (tgt := 116) dX12_message_68 (by decide) ?_
        refine uu_iinc (v := x6 + 1) dX12_message_116 (k := 5) rfl rfl (by decide) rfl ?_
        refine uu_goto (tgt := 32) dX12_message_119 (by decide) ?_
        refine uu_lv [1, 2, 3, 4, 5, 0] (lv' := [(0, .ref (B + 1079)), (1, .int x1), (2, .int x2), (4, .int x4), (5, .int x5), (6, .int (x6 + 1))]) rfl ?_
        exact hK32 x1 x2 x4 x5 (x6 + 1) _ _ h
def fn_X12_message_32  : Nat → Int32 → Int32 → Int32 → Int32 → Int32 → uS → Option Int32
  | 0 => fun _ _ _ _ _ _ => none
  | n + 1 => fb_X12_message_32 (fn_X12_message_32  n)
set_option maxRecDepth 100000 in
set_option maxHeartbeats 4000000 in
theorem xn_X12_message_32 {l : Launch} {D : va_G} {A : Nat → ClassId} {B : Nat} {Z : State → Heap → Prop} {vF : Value} (uk : uK B Z vF)   : ∀ (n : Nat) (x1 : Int32) (x2 : Int32) (x4 : Int32) (x5 : Int32) (x6 : Int32)  (s : uS) (r : Int32), fn_X12_message_32  n x1 x2 x4 x5 x6 s = some r → GU l D A B Z mX12_message 1 (s, some (.int r)) s 32 [(0, .ref (B + 1079)), (1, .int x1), (2, .int x2), (4, .int x4), (5, .int x5), (6, .int x6)] [] := by
  intro n
  induction n with
  | zero => intro x1 x2 x4 x5 x6 s r h
            cases h
  | succ n ih => intro x1 x2 x4 x5 x6 s r h
                 exact xb_X12_message_32 uk ih  h
def fn_X12_message (x1 : Int32) (x2 : Int32) (x3 : Int32) (x4 : Int32) (s : uS) : Option Int32 := (fn_X12_isBox x1 x2 s).bind fun v1 => if v1 = true then (if x3 < 0 then (some (-1 : Int32)) else (if x4 < 0 then (some (-1 : Int32)) else (if x4 ≤ 2 then (fn_X12_message_32 uFu x1 x2 x4 x3 0 s) else (some (-1 : Int32))))) else (some (-1 : Int32))
set_option maxRecDepth 100000 in
set_option maxHeartbeats 4000000 in
theorem xc_X12_message {l : Launch} {D : va_G} {A : Nat → ClassId} {B : Nat} {Z : State → Heap → Prop} {vF : Value} (uk : uK B Z vF) {x1 : Int32} {x2 : Int32} {x3 : Int32} {x4 : Int32} {s : uS} {r : Int32}  (h : fn_X12_message x1 x2 x3 x4 s = some r) : CU l D A B Z 1 mX12_message s [.ref (B + 1079), .int x1, .int x2, .int x3, .int x4] (s, some (.int r)) := by
  unfold fn_X12_message at h
  refine cu_of rfl uk.1.1 (Nat.le_of_ble_eq_true rfl) ?_
  show GU _ _ _ _ _ _ _ _ _ 0 [(0, .ref (B + 1079)), (1, .int x1), (2, .int x2), (3, .int x3), (4, .int x4)] []
  refine uu_aload_n dX12_message_0 rfl (List.mem_of_getElem? (i := 0) rfl) ?_
  refine uu_iload_n dX12_message_1 rfl (List.mem_of_getElem? (i := 1) rfl) ?_
  refine uu_iload_n dX12_message_2 rfl (List.mem_of_getElem? (i := 2) rfl) ?_
  obtain ⟨v1, e2, h⟩ := uu_ob h
  refine uu_cv (d1 := 0) (k := 1079) (ci := 12) (T := TX12) (N := 153) (As := [.int x1, .int x2]) (st := []) (st' := [.int (bI v1)]) (xc_X12_isBox uk  e2) so_1079.is (by decide) rfl kX12_isBox lX12_1389 sX12_isBox (by decide) (Nat.le_of_ble_eq_true rfl) dX12_message_3 rfl ?_
  refine uu_ifb_eq (tgt := 24) dX12_message_6 (by decide) (fun c3 => ?_) (fun c3 => ?_)
  · replace h := uu_neg c3 h
    refine uu_iconst (v := -1) dX12_message_24 (by decide) ?_
    have hr := Option.some.inj h
    subst hr
    exact uu_iret rfl dX12_message_25
  · replace h := uu_pos c3 h
    refine uu_iload_n dX12_message_9 rfl (List.mem_of_getElem? (i := 3) rfl) ?_
    refine uu_if_lt (tgt := 24) dX12_message_10 (by decide) (fun c4 => ?_) (fun c4 => ?_)
    · replace h := uu_pos c4 h
      refine uu_iconst (v := -1) dX12_message_24 (by decide) ?_
      have hr := Option.some.inj h
      subst hr
      exact uu_iret rfl dX12_message_25
    · replace h := uu_neg c4 h
      refine uu_iload dX12_message_13 (List.mem_of_getElem? (i := 4) rfl) ?_
      refine uu_if_lt (tgt := 24) dX12_message_15 (by decide) (fun c5 => ?_) (fun c5 => ?_)
      · replace h := uu_pos c5 h
        refine uu_iconst (v := -1) dX12_message_24 (by decide) ?_
        have hr := Option.some.inj h
        subst hr
        exact uu_iret rfl dX12_message_25
      · replace h := uu_neg c5 h
        refine uu_iload dX12_message_18 (List.mem_of_getElem? (i := 4) rfl) ?_
        refine uu_iconst (v := 2) dX12_message_20 (by decide) ?_
        refine uu_icmp_le (tgt := 26) dX12_message_21 (by decide) (fun c6 => ?_) (fun c6 => ?_)
        · replace h := uu_pos c6 h
          refine uu_iload_n dX12_message_26 rfl (List.mem_of_getElem? (i := 3) rfl) ?_
          refine uu_istore dX12_message_27 (by decide) rfl ?_
          refine uu_iconst (v := 0) dX12_message_29 (by decide) ?_
          refine uu_istore dX12_message_30 (by decide) rfl ?_
          refine uu_lv [2, 3, 4, 6, 1, 0] (lv' := [(0, .ref (B + 1079)), (1, .int x1), (2, .int x2), (4, .int x4), (5, .int x3), (6, .int 0)]) rfl ?_
          exact xn_X12_message_32 uk  _ _ _ _ _ _ _ _ h
        · replace h := uu_neg c6 h
          refine uu_iconst (v := -1) dX12_message_24 (by decide) ?_
          have hr := Option.some.inj h
          subst hr
          exact uu_iret rfl dX12_message_25
def fb_X12_bytes_65 (K30 : Int32 → Int32 → Int64 → Int32 → uS → Option Int64) (x1 : Int32) (x2 : Int32) (l3 : Int64) (x5 : Int32) (bs0 : Bool) (s : uS) : Option Int64 := if bs0 = true then ((iget 20 s 1121 x1).bind fun v2 => (fn_X12_storedAt ((v2 + x2) + x5) s).bind fun v4 => K30 x1 x2 ((l3 <<< ((8 : Int32).toInt64 &&& 63)) ||| v4.toInt64) (x5 + 1) s) else (K30 x1 x2 ((l3 <<< ((8 : Int32).toInt64 &&& 63)) ||| ((0 : Int32).toInt64)) (x5 + 1) s)
set_option maxRecDepth 100000 in
set_option maxHeartbeats 4000000 in
theorem xb_X12_bytes_65 {l : Launch} {D : va_G} {A : Nat → ClassId} {B : Nat} {Z : State → Heap → Prop} {vF : Value} (uk : uK B Z vF) {K30 : Int32 → Int32 → Int64 → Int32 → uS → Option Int64} (hK30 : ∀ (x1 : Int32) (x2 : Int32) (l3 : Int64) (x5 : Int32)  (s : uS) (r : Int64), K30 x1 x2 l3 x5 s = some r → GU l D A B Z mX12_bytes 1 (s, some (.long r)) s 30 [(0, .ref (B + 1079)), (1, .int x1), (2, .int x2), (3, .long l3), (5, .int x5)] []) {x1 : Int32} {x2 : Int32} {l3 : Int64} {x5 : Int32} {bs0 : Bool} {s : uS} {r : Int64}  (h : fb_X12_bytes_65 K30 x1 x2 l3 x5 bs0 s = some r) : GU l D A B Z mX12_bytes 1 (s, some (.long r)) s 65 [(0, .ref (B + 1079)), (1, .int x1), (2, .int x2), (3, .long l3), (5, .int x5)] [.int (bI bs0)] := by
  unfold fb_X12_bytes_65 at h
  refine uu_istore dX12_bytes_65 (by decide) rfl ?_
  refine uu_lload_n dX12_bytes_67 rfl (List.mem_of_getElem? (i := 4) rfl) ?_
  refine uu_bipush (v := 8) dX12_bytes_68 (by decide) ?_
  refine uu_lshl dX12_bytes_70 rfl ?_
  refine uu_iload dX12_bytes_71 (List.mem_of_getElem? (i := 0) rfl) ?_
  refine uu_ifb_eq (tgt := 94) dX12_bytes_73 (by decide) (fun c1 => ?_) (fun c1 => ?_)
  · replace h := uu_neg c1 h
    refine uu_iconst (v := 0) dX12_bytes_94 (by decide) ?_
    refine uu_i2l dX12_bytes_95 rfl ?_
    refine uu_lor dX12_bytes_96 ?_
    refine uu_lstore_n dX12_bytes_97 rfl (by decide) rfl ?_
    refine uu_iinc (v := x5 + 1) dX12_bytes_98 (k := 5) rfl rfl (by decide) rfl ?_
    refine uu_goto (tgt := 30) dX12_bytes_101 (by decide) ?_
    refine uu_lv [3, 4, 5, 1, 0] (lv' := [(0, .ref (B + 1079)), (1, .int x1), (2, .int x2), (3, .long ((l3 <<< ((8 : Int32).toInt64 &&& 63)) ||| ((0 : Int32).toInt64))), (5, .int (x5 + 1))]) rfl ?_
    exact hK30 x1 x2 ((l3 <<< ((8 : Int32).toInt64 &&& 63)) ||| ((0 : Int32).toInt64)) (x5 + 1) _ _ h
  · replace h := uu_pos c1 h
    refine uu_aload_n dX12_bytes_76 rfl (List.mem_of_getElem? (i := 1) rfl) ?_
    refine uu_aload_n dX12_bytes_77 rfl (List.mem_of_getElem? (i := 1) rfl) ?_
    refine uu_geta (ci := 12) (N := 153) fX12_575 (by decide) so_1079.is (by decide) (c := 1121) (by decide) dX12_bytes_78 ?_
    refine uu_iload_n dX12_bytes_81 rfl (List.mem_of_getElem? (i := 2) rfl) ?_
    obtain ⟨v2, e3, h⟩ := uu_ob h
    refine uu_iald e3 dX12_bytes_82 ?_
    refine uu_iload_n dX12_bytes_83 rfl (List.mem_of_getElem? (i := 3) rfl) ?_
    refine uu_iadd dX12_bytes_84 ?_
    refine uu_iload dX12_bytes_85 (List.mem_of_getElem? (i := 5) rfl) ?_
    refine uu_iadd dX12_bytes_87 ?_
    obtain ⟨v4, e5, h⟩ := uu_ob h
    refine uu_cv (d1 := 0) (k := 1079) (ci := 12) (T := TX12) (N := 153) (As := [.int ((v2 + x2) + x5)]) (st := [.long (l3 <<< ((8 : Int32).toInt64 &&& 63))]) (st' := [.int v4, .long (l3 <<< ((8 : Int32).toInt64 &&& 63))]) (xc_X12_storedAt uk  e5) so_1079.is (by decide) rfl kX12_storedAt lX12_1392 sX12_storedAt (by decide) (Nat.le_of_ble_eq_true rfl) dX12_bytes_88 rfl ?_
    refine uu_goto (tgt := 95) dX12_bytes_91 (by decide) ?_
    refine uu_i2l dX12_bytes_95 rfl ?_
    refine uu_lor dX12_bytes_96 ?_
    refine uu_lstore_n dX12_bytes_97 rfl (by decide) rfl ?_
    refine uu_iinc (v := x5 + 1) dX12_bytes_98 (k := 5) rfl rfl (by decide) rfl ?_
    refine uu_goto (tgt := 30) dX12_bytes_101 (by decide) ?_
    refine uu_lv [3, 4, 5, 1, 0] (lv' := [(0, .ref (B + 1079)), (1, .int x1), (2, .int x2), (3, .long ((l3 <<< ((8 : Int32).toInt64 &&& 63)) ||| v4.toInt64)), (5, .int (x5 + 1))]) rfl ?_
    exact hK30 x1 x2 ((l3 <<< ((8 : Int32).toInt64 &&& 63)) ||| v4.toInt64) (x5 + 1) _ _ h
def fb_X12_bytes_30 (K30 : Int32 → Int32 → Int64 → Int32 → uS → Option Int64) (x1 : Int32) (x2 : Int32) (l3 : Int64) (x5 : Int32) (s : uS) : Option Int64 := if (8 : Int32) ≤ x5 then (some l3) else ((iget 20 s 1122 x1).bind fun v2 => if v2 ≤ x2 then (fb_X12_bytes_65 K30 x1 x2 l3 x5 false s) else ((iget 20 s 1122 x1).bind fun v5 => if (v5 - x2) ≤ x5 then (fb_X12_bytes_65 K30 x1 x2 l3 x5 false s) else (fb_X12_bytes_65 K30 x1 x2 l3 x5 true s)))
set_option maxRecDepth 100000 in
set_option maxHeartbeats 4000000 in
theorem xb_X12_bytes_30 {l : Launch} {D : va_G} {A : Nat → ClassId} {B : Nat} {Z : State → Heap → Prop} {vF : Value} (uk : uK B Z vF) {K30 : Int32 → Int32 → Int64 → Int32 → uS → Option Int64} (hK30 : ∀ (x1 : Int32) (x2 : Int32) (l3 : Int64) (x5 : Int32)  (s : uS) (r : Int64), K30 x1 x2 l3 x5 s = some r → GU l D A B Z mX12_bytes 1 (s, some (.long r)) s 30 [(0, .ref (B + 1079)), (1, .int x1), (2, .int x2), (3, .long l3), (5, .int x5)] []) {x1 : Int32} {x2 : Int32} {l3 : Int64} {x5 : Int32} {s : uS} {r : Int64}  (h : fb_X12_bytes_30 K30 x1 x2 l3 x5 s = some r) : GU l D A B Z mX12_bytes 1 (s, some (.long r)) s 30 [(0, .ref (B + 1079)), (1, .int x1), (2, .int x2), (3, .long l3), (5, .int x5)] [] := by
  unfold fb_X12_bytes_30 at h
  refine uu_iload dX12_bytes_30 (List.mem_of_getElem? (i := 4) rfl) ?_
  refine uu_bipush (v := 8) dX12_bytes_32 (by decide) ?_
  refine uu_icmp_ge (tgt := 104) dX12_bytes_34 (by decide) (fun c1 => ?_) (fun c1 => ?_)
  · replace h := uu_pos c1 h
    refine uu_lload_n dX12_bytes_104 rfl (List.mem_of_getElem? (i := 3) rfl) ?_
    have hr := Option.some.inj h
    subst hr
    exact uu_lret rfl dX12_bytes_105
  · replace h := uu_neg c1 h
    refine uu_iload_n dX12_bytes_37 rfl (List.mem_of_getElem? (i := 2) rfl) ?_
    refine uu_aload_n dX12_bytes_38 rfl (List.mem_of_getElem? (i := 0) rfl) ?_
    refine uu_geta (ci := 12) (N := 153) fX12_578 (by decide) so_1079.is (by decide) (c := 1122) (by decide) dX12_bytes_39 ?_
    refine uu_iload_n dX12_bytes_42 rfl (List.mem_of_getElem? (i := 1) rfl) ?_
    obtain ⟨v2, e3, h⟩ := uu_ob h
    refine uu_iald e3 dX12_bytes_43 ?_
    refine uu_icmp_ge (tgt := 64) dX12_bytes_44 (by decide) (fun c4 => ?_) (fun c4 => ?_)
    · replace h := uu_pos c4 h
      refine uu_iconst (v := 0) dX12_bytes_64 (by decide) ?_
      exact xb_X12_bytes_65 uk hK30 h
    · replace h := uu_neg c4 h
      refine uu_iload dX12_bytes_47 (List.mem_of_getElem? (i := 4) rfl) ?_
      refine uu_aload_n dX12_bytes_49 rfl (List.mem_of_getElem? (i := 0) rfl) ?_
      refine uu_geta (ci := 12) (N := 153) fX12_578 (by decide) so_1079.is (by decide) (c := 1122) (by decide) dX12_bytes_50 ?_
      refine uu_iload_n dX12_bytes_53 rfl (List.mem_of_getElem? (i := 1) rfl) ?_
      obtain ⟨v5, e6, h⟩ := uu_ob h
      refine uu_iald e6 dX12_bytes_54 ?_
      refine uu_iload_n dX12_bytes_55 rfl (List.mem_of_getElem? (i := 2) rfl) ?_
      refine uu_isub dX12_bytes_56 ?_
      refine uu_icmp_ge (tgt := 64) dX12_bytes_57 (by decide) (fun c7 => ?_) (fun c7 => ?_)
      · replace h := uu_pos c7 h
        refine uu_iconst (v := 0) dX12_bytes_64 (by decide) ?_
        exact xb_X12_bytes_65 uk hK30 h
      · replace h := uu_neg c7 h
        refine uu_iconst (v := 1) dX12_bytes_60 (by decide) ?_
        refine uu_goto (tgt := 65) dX12_bytes_61 (by decide) ?_
        exact xb_X12_bytes_65 uk hK30 h
def fn_X12_bytes_30  : Nat → Int32 → Int32 → Int64 → Int32 → uS → Option Int64
  | 0 => fun _ _ _ _ _ => none
  | n + 1 => fb_X12_bytes_30 (fn_X12_bytes_30  n)
set_option maxRecDepth 100000 in
set_option maxHeartbeats 4000000 in
theorem xn_X12_bytes_30 {l : Launch} {D : va_G} {A : Nat → ClassId} {B : Nat} {Z : State → Heap → Prop} {vF : Value} (uk : uK B Z vF)   : ∀ (n : Nat) (x1 : Int32) (x2 : Int32) (l3 : Int64) (x5 : Int32)  (s : uS) (r : Int64), fn_X12_bytes_30  n x1 x2 l3 x5 s = some r → GU l D A B Z mX12_bytes 1 (s, some (.long r)) s 30 [(0, .ref (B + 1079)), (1, .int x1), (2, .int x2), (3, .long l3), (5, .int x5)] [] := by
  intro n
  induction n with
  | zero => intro x1 x2 l3 x5 s r h
            cases h
  | succ n ih => intro x1 x2 l3 x5 s r h
                 exact xb_X12_bytes_30 uk ih  h
def fn_X12_bytes (x1 : Int32) (x2 : Int32) (s : uS) : Option Int64 := if x1 < 0 then (some (-1)) else (if ((s.I 1079 70) + (s.I 1079 71)) ≤ x1 then (some (-1)) else (if 0 ≤ x2 then (fn_X12_bytes_30 uFu x1 x2 0 0 s) else (some (-1))))
set_option maxRecDepth 100000 in
set_option maxHeartbeats 4000000 in
theorem xc_X12_bytes {l : Launch} {D : va_G} {A : Nat → ClassId} {B : Nat} {Z : State → Heap → Prop} {vF : Value} (uk : uK B Z vF) {x1 : Int32} {x2 : Int32} {s : uS} {r : Int64}  (h : fn_X12_bytes x1 x2 s = some r) : CU l D A B Z 1 mX12_bytes s [.ref (B + 1079), .int x1, .int x2] (s, some (.long r)) := by
  unfold fn_X12_bytes at h
  refine cu_of rfl uk.1.1 (Nat.le_of_ble_eq_true rfl) ?_
  show GU _ _ _ _ _ _ _ _ _ 0 [(0, .ref (B + 1079)), (1, .int x1), (2, .int x2)] []
  refine uu_iload_n dX12_bytes_0 rfl (List.mem_of_getElem? (i := 1) rfl) ?_
  refine uu_if_lt (tgt := 21) dX12_bytes_1 (by decide) (fun c1 => ?_) (fun c1 => ?_)
  · replace h := uu_pos c1 h
    refine uu_ldc2 (v := -1) cX12_561 dX12_bytes_21 ?_
    have hr := Option.some.inj h
    subst hr
    exact uu_lret rfl dX12_bytes_24
  · replace h := uu_neg c1 h
    refine uu_iload_n dX12_bytes_4 rfl (List.mem_of_getElem? (i := 1) rfl) ?_
    refine uu_aload_n dX12_bytes_5 rfl (List.mem_of_getElem? (i := 0) rfl) ?_
    refine uu_geti (ci := 12) (N := 153) fX12_563 (by decide) so_1079.is (by decide) (by decide) dX12_bytes_6 ?_
    refine uu_aload_n dX12_bytes_9 rfl (List.mem_of_getElem? (i := 0) rfl) ?_
    refine uu_geti (ci := 12) (N := 153) fX12_566 (by decide) so_1079.is (by decide) (by decide) dX12_bytes_10 ?_
    refine uu_iadd dX12_bytes_13 ?_
    refine uu_icmp_ge (tgt := 21) dX12_bytes_14 (by decide) (fun c2 => ?_) (fun c2 => ?_)
    · replace h := uu_pos c2 h
      refine uu_ldc2 (v := -1) cX12_561 dX12_bytes_21 ?_
      have hr := Option.some.inj h
      subst hr
      exact uu_lret rfl dX12_bytes_24
    · replace h := uu_neg c2 h
      refine uu_iload_n dX12_bytes_17 rfl (List.mem_of_getElem? (i := 2) rfl) ?_
      refine uu_if_ge (tgt := 25) dX12_bytes_18 (by decide) (fun c3 => ?_) (fun c3 => ?_)
      · replace h := uu_pos c3 h
        refine uu_lconst (v := 0) dX12_bytes_25 (by decide) ?_
        refine uu_lstore_n dX12_bytes_26 rfl (by decide) rfl ?_
        refine uu_iconst (v := 0) dX12_bytes_27 (by decide) ?_
        refine uu_istore dX12_bytes_28 (by decide) rfl ?_
        refine uu_lv [2, 3, 4, 1, 0] (lv' := [(0, .ref (B + 1079)), (1, .int x1), (2, .int x2), (3, .long 0), (5, .int 0)]) rfl ?_
        exact xn_X12_bytes_30 uk  _ _ _ _ _ _ _ h
      · replace h := uu_neg c3 h
        refine uu_ldc2 (v := -1) cX12_561 dX12_bytes_21 ?_
        have hr := Option.some.inj h
        subst hr
        exact uu_lret rfl dX12_bytes_24
def fb_X12_name_158 (K79 : Int32 → Int32 → Int32 → Bool → Int32 → Int64 → Int32 → uS → Option Int64) (x1 : Int32) (x2 : Int32) (x3 : Int32) (b4 : Bool) (x5 : Int32) (l6 : Int64) (x8 : Int32) (xs0 : Int32) (s : uS) : Option Int64 := K79 x1 x2 x3 b4 x5 ((l6 <<< ((8 : Int32).toInt64 &&& 63)) ||| xs0.toInt64) (x8 + 1) s
set_option maxRecDepth 100000 in
set_option maxHeartbeats 4000000 in
theorem xb_X12_name_158 {l : Launch} {D : va_G} {A : Nat → ClassId} {B : Nat} {Z : State → Heap → Prop} {vF : Value} (uk : uK B Z vF) {K79 : Int32 → Int32 → Int32 → Bool → Int32 → Int64 → Int32 → uS → Option Int64} (hK79 : ∀ (x1 : Int32) (x2 : Int32) (x3 : Int32) (b4 : Bool) (x5 : Int32) (l6 : Int64) (x8 : Int32)  (s : uS) (r : Int64), K79 x1 x2 x3 b4 x5 l6 x8 s = some r → GU l D A B Z mX12_name 1 (s, some (.long r)) s 79 [(0, .ref (B + 1079)), (1, .int x1), (2, .int x2), (3, .int x3), (4, .int (bI b4)), (5, .int x5), (6, .long l6), (8, .int x8)] []) {x1 : Int32} {x2 : Int32} {x3 : Int32} {b4 : Bool} {x5 : Int32} {l6 : Int64} {x8 : Int32} {xs0 : Int32} {s : uS} {r : Int64}  (h : fb_X12_name_158 K79 x1 x2 x3 b4 x5 l6 x8 xs0 s = some r) : GU l D A B Z mX12_name 1 (s, some (.long r)) s 158 [(0, .ref (B + 1079)), (1, .int x1), (2, .int x2), (3, .int x3), (4, .int (bI b4)), (5, .int x5), (6, .long l6), (8, .int x8)] [.int xs0] := by
  unfold fb_X12_name_158 at h
  refine uu_istore dX12_name_158 (by decide) rfl ?_
  refine uu_lload dX12_name_160 (List.mem_of_getElem? (i := 7) rfl) ?_
  refine uu_bipush (v := 8) dX12_name_162 (by decide) ?_
  refine uu_lshl dX12_name_164 rfl ?_
  refine uu_iload dX12_name_165 (List.mem_of_getElem? (i := 0) rfl) ?_
  refine uu_i2l dX12_name_167 rfl ?_
  refine uu_lor dX12_name_168 ?_
  refine uu_lstore dX12_name_169 (by decide) rfl ?_
  refine uu_iinc (v := x8 + 1) dX12_name_171 (k := 8) rfl rfl (by decide) rfl ?_
  refine uu_goto (tgt := 79) dX12_name_174 (by decide) ?_
  refine uu_lv [3, 4, 5, 6, 7, 8, 1, 0] (lv' := [(0, .ref (B + 1079)), (1, .int x1), (2, .int x2), (3, .int x3), (4, .int (bI b4)), (5, .int x5), (6, .long ((l6 <<< ((8 : Int32).toInt64 &&& 63)) ||| xs0.toInt64)), (8, .int (x8 + 1))]) rfl ?_
  exact hK79 x1 x2 x3 b4 x5 ((l6 <<< ((8 : Int32).toInt64 &&& 63)) ||| xs0.toInt64) (x8 + 1) _ _ h
def fb_X12_name_106 (K79 : Int32 → Int32 → Int32 → Bool → Int32 → Int64 → Int32 → uS → Option Int64) (x1 : Int32) (x2 : Int32) (x3 : Int32) (b4 : Bool) (x5 : Int32) (l6 : Int64) (x8 : Int32) (bs0 : Bool) (s : uS) : Option Int64 := if bs0 = true then (if b4 = true then ((iget 20 s 1124 ((((101 : Int32) * x2) + x3) + x8)).bind fun v5 => fb_X12_name_158 K79 x1 x2 x3 b4 x5 l6 x8 v5 s) else ((iget 20 s 1127 ((((20 : Int32) * (((6 : Int32) * x1) + x2)) + x3) + x8)).bind fun v3 => fb_X12_name_158 K79 x1 x2 x3 b4 x5 l6 x8 v3 s)) else (fb_X12_name_158 K79 x1 x2 x3 b4 x5 l6 x8 0 s)
set_option maxRecDepth 100000 in
set_option maxHeartbeats 4000000 in
theorem xb_X12_name_106 {l : Launch} {D : va_G} {A : Nat → ClassId} {B : Nat} {Z : State → Heap → Prop} {vF : Value} (uk : uK B Z vF) {K79 : Int32 → Int32 → Int32 → Bool → Int32 → Int64 → Int32 → uS → Option Int64} (hK79 : ∀ (x1 : Int32) (x2 : Int32) (x3 : Int32) (b4 : Bool) (x5 : Int32) (l6 : Int64) (x8 : Int32)  (s : uS) (r : Int64), K79 x1 x2 x3 b4 x5 l6 x8 s = some r → GU l D A B Z mX12_name 1 (s, some (.long r)) s 79 [(0, .ref (B + 1079)), (1, .int x1), (2, .int x2), (3, .int x3), (4, .int (bI b4)), (5, .int x5), (6, .long l6), (8, .int x8)] []) {x1 : Int32} {x2 : Int32} {x3 : Int32} {b4 : Bool} {x5 : Int32} {l6 : Int64} {x8 : Int32} {bs0 : Bool} {s : uS} {r : Int64}  (h : fb_X12_name_106 K79 x1 x2 x3 b4 x5 l6 x8 bs0 s = some r) : GU l D A B Z mX12_name 1 (s, some (.long r)) s 106 [(0, .ref (B + 1079)), (1, .int x1), (2, .int x2), (3, .int x3), (4, .int (bI b4)), (5, .int x5), (6, .long l6), (8, .int x8)] [.int (bI bs0)] := by
  unfold fb_X12_name_106 at h
  refine uu_istore dX12_name_106 (by decide) rfl ?_
  refine uu_iload dX12_name_108 (List.mem_of_getElem? (i := 0) rfl) ?_
  refine uu_ifb_ne (tgt := 117) dX12_name_110 (by decide) (fun c1 => ?_) (fun c1 => ?_)
  · replace h := uu_pos c1 h
    refine uu_iload dX12_name_117 (List.mem_of_getElem? (i := 5) rfl) ?_
    refine uu_ifb_eq (tgt := 139) dX12_name_119 (by decide) (fun c2 => ?_) (fun c2 => ?_)
    · replace h := uu_neg c2 h
      refine uu_aload_n dX12_name_139 rfl (List.mem_of_getElem? (i := 1) rfl) ?_
      refine uu_geta (ci := 12) (N := 153) fX12_805 (by decide) so_1079.is (by decide) (c := 1127) (by decide) dX12_name_140 ?_
      refine uu_bipush (v := 20) dX12_name_143 (by decide) ?_
      refine uu_bipush (v := 6) dX12_name_145 (by decide) ?_
      refine uu_iload_n dX12_name_147 rfl (List.mem_of_getElem? (i := 2) rfl) ?_
      refine uu_imul dX12_name_148 ?_
      refine uu_iload_n dX12_name_149 rfl (List.mem_of_getElem? (i := 3) rfl) ?_
      refine uu_iadd dX12_name_150 ?_
      refine uu_imul dX12_name_151 ?_
      refine uu_iload_n dX12_name_152 rfl (List.mem_of_getElem? (i := 4) rfl) ?_
      refine uu_iadd dX12_name_153 ?_
      refine uu_iload dX12_name_154 (List.mem_of_getElem? (i := 8) rfl) ?_
      refine uu_iadd dX12_name_156 ?_
      obtain ⟨v3, e4, h⟩ := uu_ob h
      refine uu_iald e4 dX12_name_157 ?_
      refine uu_lv [1, 2, 3, 4, 5, 6, 7, 8] (lv' := [(0, .ref (B + 1079)), (1, .int x1), (2, .int x2), (3, .int x3), (4, .int (bI b4)), (5, .int x5), (6, .long l6), (8, .int x8)]) rfl ?_
      exact xb_X12_name_158 uk hK79 h
    · replace h := uu_pos c2 h
      refine uu_aload_n dX12_name_122 rfl (List.mem_of_getElem? (i := 1) rfl) ?_
      refine uu_geta (ci := 12) (N := 153) fX12_957 (by decide) so_1079.is (by decide) (c := 1124) (by decide) dX12_name_123 ?_
      refine uu_bipush (v := 101) dX12_name_126 (by decide) ?_
      refine uu_iload_n dX12_name_128 rfl (List.mem_of_getElem? (i := 3) rfl) ?_
      refine uu_imul dX12_name_129 ?_
      refine uu_iload_n dX12_name_130 rfl (List.mem_of_getElem? (i := 4) rfl) ?_
      refine uu_iadd dX12_name_131 ?_
      refine uu_iload dX12_name_132 (List.mem_of_getElem? (i := 8) rfl) ?_
      refine uu_iadd dX12_name_134 ?_
      obtain ⟨v5, e6, h⟩ := uu_ob h
      refine uu_iald e6 dX12_name_135 ?_
      refine uu_goto (tgt := 158) dX12_name_136 (by decide) ?_
      refine uu_lv [1, 2, 3, 4, 5, 6, 7, 8] (lv' := [(0, .ref (B + 1079)), (1, .int x1), (2, .int x2), (3, .int x3), (4, .int (bI b4)), (5, .int x5), (6, .long l6), (8, .int x8)]) rfl ?_
      exact xb_X12_name_158 uk hK79 h
  · replace h := uu_neg c1 h
    refine uu_iconst (v := 0) dX12_name_113 (by decide) ?_
    refine uu_goto (tgt := 158) dX12_name_114 (by decide) ?_
    refine uu_lv [1, 2, 3, 4, 5, 6, 7, 8] (lv' := [(0, .ref (B + 1079)), (1, .int x1), (2, .int x2), (3, .int x3), (4, .int (bI b4)), (5, .int x5), (6, .long l6), (8, .int x8)]) rfl ?_
    exact xb_X12_name_158 uk hK79 h
def fb_X12_name_79 (K79 : Int32 → Int32 → Int32 → Bool → Int32 → Int64 → Int32 → uS → Option Int64) (x1 : Int32) (x2 : Int32) (x3 : Int32) (b4 : Bool) (x5 : Int32) (l6 : Int64) (x8 : Int32) (s : uS) : Option Int64 := if (8 : Int32) ≤ x8 then (some l6) else (if x5 ≤ x3 then (fb_X12_name_106 K79 x1 x2 x3 b4 x5 l6 x8 false s) else (if (x5 - x3) ≤ x8 then (fb_X12_name_106 K79 x1 x2 x3 b4 x5 l6 x8 false s) else (fb_X12_name_106 K79 x1 x2 x3 b4 x5 l6 x8 true s)))
set_option maxRecDepth 100000 in
set_option maxHeartbeats 4000000 in
theorem xb_X12_name_79 {l : Launch} {D : va_G} {A : Nat → ClassId} {B : Nat} {Z : State → Heap → Prop} {vF : Value} (uk : uK B Z vF) {K79 : Int32 → Int32 → Int32 → Bool → Int32 → Int64 → Int32 → uS → Option Int64} (hK79 : ∀ (x1 : Int32) (x2 : Int32) (x3 : Int32) (b4 : Bool) (x5 : Int32) (l6 : Int64) (x8 : Int32)  (s : uS) (r : Int64), K79 x1 x2 x3 b4 x5 l6 x8 s = some r → GU l D A B Z mX12_name 1 (s, some (.long r)) s 79 [(0, .ref (B + 1079)), (1, .int x1), (2, .int x2), (3, .int x3), (4, .int (bI b4)), (5, .int x5), (6, .long l6), (8, .int x8)] []) {x1 : Int32} {x2 : Int32} {x3 : Int32} {b4 : Bool} {x5 : Int32} {l6 : Int64} {x8 : Int32} {s : uS} {r : Int64}  (h : fb_X12_name_79 K79 x1 x2 x3 b4 x5 l6 x8 s = some r) : GU l D A B Z mX12_name 1 (s, some (.long r)) s 79 [(0, .ref (B + 1079)), (1, .int x1), (2, .int x2), (3, .int x3), (4, .int (bI b4)), (5, .int x5), (6, .long l6), (8, .int x8)] [] := by
  unfold fb_X12_name_79 at h
  refine uu_iload dX12_name_79 (List.mem_of_getElem? (i := 7) rfl) ?_
  refine uu_bipush (v := 8) dX12_name_81 (by decide) ?_
  refine uu_icmp_ge (tgt := 177) dX12_name_83 (by decide) (fun c1 => ?_) (fun c1 => ?_)
  · replace h := uu_pos c1 h
    refine uu_lload dX12_name_177 (List.mem_of_getElem? (i := 6) rfl) ?_
    have hr := Option.some.inj h
    subst hr
    exact uu_lret rfl dX12_name_179
  · replace h := uu_neg c1 h
    refine uu_iload_n dX12_name_86 rfl (List.mem_of_getElem? (i := 3) rfl) ?_
    refine uu_iload dX12_name_87 (List.mem_of_getElem? (i := 5) rfl) ?_
    refine uu_icmp_ge (tgt := 105) dX12_name_89 (by decide) (fun c2 => ?_) (fun c2 => ?_)
    · replace h := uu_pos c2 h
      refine uu_iconst (v := 0) dX12_name_105 (by decide) ?_
      exact xb_X12_name_106 uk hK79 h
    · replace h := uu_neg c2 h
      refine uu_iload dX12_name_92 (List.mem_of_getElem? (i := 7) rfl) ?_
      refine uu_iload dX12_name_94 (List.mem_of_getElem? (i := 5) rfl) ?_
      refine uu_iload_n dX12_name_96 rfl (List.mem_of_getElem? (i := 3) rfl) ?_
      refine uu_isub dX12_name_97 ?_
      refine uu_icmp_ge (tgt := 105) dX12_name_98 (by decide) (fun c3 => ?_) (fun c3 => ?_)
      · replace h := uu_pos c3 h
        refine uu_iconst (v := 0) dX12_name_105 (by decide) ?_
        exact xb_X12_name_106 uk hK79 h
      · replace h := uu_neg c3 h
        refine uu_iconst (v := 1) dX12_name_101 (by decide) ?_
        refine uu_goto (tgt := 106) dX12_name_102 (by decide) ?_
        exact xb_X12_name_106 uk hK79 h
def fn_X12_name_79  : Nat → Int32 → Int32 → Int32 → Bool → Int32 → Int64 → Int32 → uS → Option Int64
  | 0 => fun _ _ _ _ _ _ _ _ => none
  | n + 1 => fb_X12_name_79 (fn_X12_name_79  n)
set_option maxRecDepth 100000 in
set_option maxHeartbeats 4000000 in
theorem xn_X12_name_79 {l : Launch} {D : va_G} {A : Nat → ClassId} {B : Nat} {Z : State → Heap → Prop} {vF : Value} (uk : uK B Z vF)   : ∀ (n : Nat) (x1 : Int32) (x2 : Int32) (x3 : Int32) (b4 : Bool) (x5 : Int32) (l6 : Int64) (x8 : Int32)  (s : uS) (r : Int64), fn_X12_name_79  n x1 x2 x3 b4 x5 l6 x8 s = some r → GU l D A B Z mX12_name 1 (s, some (.long r)) s 79 [(0, .ref (B + 1079)), (1, .int x1), (2, .int x2), (3, .int x3), (4, .int (bI b4)), (5, .int x5), (6, .long l6), (8, .int x8)] [] := by
  intro n
  induction n with
  | zero => intro x1 x2 x3 b4 x5 l6 x8 s r h
            cases h
  | succ n ih => intro x1 x2 x3 b4 x5 l6 x8 s r h
                 exact xb_X12_name_79 uk ih  h
def fb_X12_name_46  (x1 : Int32) (x2 : Int32) (x3 : Int32) (b4 : Bool) (s : uS) : Option Int64 := if b4 = true then ((iget 20 s 1125 x2).bind fun v4 => fn_X12_name_79 uFu x1 x2 x3 b4 v4 0 0 s) else ((iget 20 s 1128 (((6 : Int32) * x1) + x2)).bind fun v2 => fn_X12_name_79 uFu x1 x2 x3 b4 v2 0 0 s)
set_option maxRecDepth 100000 in
set_option maxHeartbeats 4000000 in
theorem xb_X12_name_46 {l : Launch} {D : va_G} {A : Nat → ClassId} {B : Nat} {Z : State → Heap → Prop} {vF : Value} (uk : uK B Z vF)   {x1 : Int32} {x2 : Int32} {x3 : Int32} {b4 : Bool} {s : uS} {r : Int64}  (h : fb_X12_name_46  x1 x2 x3 b4 s = some r) : GU l D A B Z mX12_name 1 (s, some (.long r)) s 46 [(0, .ref (B + 1079)), (1, .int x1), (2, .int x2), (3, .int x3), (4, .int (bI b4))] [] := by
  unfold fb_X12_name_46 at h
  refine uu_iload dX12_name_46 (List.mem_of_getElem? (i := 4) rfl) ?_
  refine uu_ifb_eq (tgt := 60) dX12_name_48 (by decide) (fun c1 => ?_) (fun c1 => ?_)
  · replace h := uu_neg c1 h
    refine uu_aload_n dX12_name_60 rfl (List.mem_of_getElem? (i := 0) rfl) ?_
    refine uu_geta (ci := 12) (N := 153) fX12_802 (by decide) so_1079.is (by decide) (c := 1128) (by decide) dX12_name_61 ?_
    refine uu_bipush (v := 6) dX12_name_64 (by decide) ?_
    refine uu_iload_n dX12_name_66 rfl (List.mem_of_getElem? (i := 1) rfl) ?_
    refine uu_imul dX12_name_67 ?_
    refine uu_iload_n dX12_name_68 rfl (List.mem_of_getElem? (i := 2) rfl) ?_
    refine uu_iadd dX12_name_69 ?_
    obtain ⟨v2, e3, h⟩ := uu_ob h
    refine uu_iald e3 dX12_name_70 ?_
    refine uu_istore dX12_name_71 (by decide) rfl ?_
    refine uu_lconst (v := 0) dX12_name_73 (by decide) ?_
    refine uu_lstore dX12_name_74 (by decide) rfl ?_
    refine uu_iconst (v := 0) dX12_name_76 (by decide) ?_
    refine uu_istore dX12_name_77 (by decide) rfl ?_
    refine uu_lv [3, 4, 5, 6, 7, 2, 1, 0] (lv' := [(0, .ref (B + 1079)), (1, .int x1), (2, .int x2), (3, .int x3), (4, .int (bI b4)), (5, .int v2), (6, .long 0), (8, .int 0)]) rfl ?_
    exact xn_X12_name_79 uk  _ _ _ _ _ _ _ _ _ _ h
  · replace h := uu_pos c1 h
    refine uu_aload_n dX12_name_51 rfl (List.mem_of_getElem? (i := 0) rfl) ?_
    refine uu_geta (ci := 12) (N := 153) fX12_954 (by decide) so_1079.is (by decide) (c := 1125) (by decide) dX12_name_52 ?_
    refine uu_iload_n dX12_name_55 rfl (List.mem_of_getElem? (i := 2) rfl) ?_
    obtain ⟨v4, e5, h⟩ := uu_ob h
    refine uu_iald e5 dX12_name_56 ?_
    refine uu_goto (tgt := 71) dX12_name_57 (by decide) ?_
    refine uu_istore dX12_name_71 (by decide) rfl ?_
    refine uu_lconst (v := 0) dX12_name_73 (by decide) ?_
    refine uu_lstore dX12_name_74 (by decide) rfl ?_
    refine uu_iconst (v := 0) dX12_name_76 (by decide) ?_
    refine uu_istore dX12_name_77 (by decide) rfl ?_
    refine uu_lv [3, 4, 5, 6, 7, 2, 1, 0] (lv' := [(0, .ref (B + 1079)), (1, .int x1), (2, .int x2), (3, .int x3), (4, .int (bI b4)), (5, .int v4), (6, .long 0), (8, .int 0)]) rfl ?_
    exact xn_X12_name_79 uk  _ _ _ _ _ _ _ _ _ _ h
def fb_X12_name_22  (x1 : Int32) (x2 : Int32) (x3 : Int32) (bs0 : Bool) (s : uS) : Option Int64 := if x3 < 0 then (some (-1)) else (if bs0 = true then (fb_X12_name_46 x1 x2 x3 bs0 s) else ((fn_X12_isBox x1 x2 s).bind fun v3 => if v3 = true then (fb_X12_name_46 x1 x2 x3 bs0 s) else (some (-1))))
set_option maxRecDepth 100000 in
set_option maxHeartbeats 4000000 in
theorem xb_X12_name_22 {l : Launch} {D : va_G} {A : Nat → ClassId} {B : Nat} {Z : State → Heap → Prop} {vF : Value} (uk : uK B Z vF)   {x1 : Int32} {x2 : Int32} {x3 : Int32} {bs0 : Bool} {s : uS} {r : Int64}  (h : fb_X12_name_22  x1 x2 x3 bs0 s = some r) : GU l D A B Z mX12_name 1 (s, some (.long r)) s 22 [(0, .ref (B + 1079)), (1, .int x1), (2, .int x2), (3, .int x3)] [.int (bI bs0)] := by
  unfold fb_X12_name_22 at h
  refine uu_istore dX12_name_22 (by decide) rfl ?_
  refine uu_iload_n dX12_name_24 rfl (List.mem_of_getElem? (i := 4) rfl) ?_
  refine uu_if_lt (tgt := 42) dX12_name_25 (by decide) (fun c1 => ?_) (fun c1 => ?_)
  · replace h := uu_pos c1 h
    refine uu_ldc2 (v := -1) cX12_561 dX12_name_42 ?_
    have hr := Option.some.inj h
    subst hr
    exact uu_lret rfl dX12_name_45
  · replace h := uu_neg c1 h
    refine uu_iload dX12_name_28 (List.mem_of_getElem? (i := 0) rfl) ?_
    refine uu_ifb_ne (tgt := 46) dX12_name_30 (by decide) (fun c2 => ?_) (fun c2 => ?_)
    · replace h := uu_pos c2 h
      refine uu_lv [1, 2, 3, 4, 0] (lv' := [(0, .ref (B + 1079)), (1, .int x1), (2, .int x2), (3, .int x3), (4, .int (bI bs0))]) rfl ?_
      exact xb_X12_name_46 uk  h
    · replace h := uu_neg c2 h
      refine uu_aload_n dX12_name_33 rfl (List.mem_of_getElem? (i := 1) rfl) ?_
      refine uu_iload_n dX12_name_34 rfl (List.mem_of_getElem? (i := 2) rfl) ?_
      refine uu_iload_n dX12_name_35 rfl (List.mem_of_getElem? (i := 3) rfl) ?_
      obtain ⟨v3, e4, h⟩ := uu_ob h
      refine uu_cv (d1 := 0) (k := 1079) (ci := 12) (T := TX12) (N := 153) (As := [.int x1, .int x2]) (st := []) (st' := [.int (bI v3)]) (xc_X12_isBox uk  e4) so_1079.is (by decide) rfl kX12_isBox lX12_1389 sX12_isBox (by decide) (Nat.le_of_ble_eq_true rfl) dX12_name_36 rfl ?_
      refine uu_ifb_ne (tgt := 46) dX12_name_39 (by decide) (fun c5 => ?_) (fun c5 => ?_)
      · replace h := uu_pos c5 h
        refine uu_lv [1, 2, 3, 4, 0] (lv' := [(0, .ref (B + 1079)), (1, .int x1), (2, .int x2), (3, .int x3), (4, .int (bI bs0))]) rfl ?_
        exact xb_X12_name_46 uk  h
      · replace h := uu_neg c5 h
        refine uu_ldc2 (v := -1) cX12_561 dX12_name_42 ?_
        have hr := Option.some.inj h
        subst hr
        exact uu_lret rfl dX12_name_45
def fn_X12_name (x1 : Int32) (x2 : Int32) (x3 : Int32) (s : uS) : Option Int64 := if x1 = 4 then (if x2 < 0 then (fb_X12_name_22 x1 x2 x3 false s) else (if (s.I 1079 71) ≤ x2 then (fb_X12_name_22 x1 x2 x3 false s) else (fb_X12_name_22 x1 x2 x3 true s))) else (fb_X12_name_22 x1 x2 x3 false s)
set_option maxRecDepth 100000 in
set_option maxHeartbeats 4000000 in
theorem xc_X12_name {l : Launch} {D : va_G} {A : Nat → ClassId} {B : Nat} {Z : State → Heap → Prop} {vF : Value} (uk : uK B Z vF) {x1 : Int32} {x2 : Int32} {x3 : Int32} {s : uS} {r : Int64}  (h : fn_X12_name x1 x2 x3 s = some r) : CU l D A B Z 1 mX12_name s [.ref (B + 1079), .int x1, .int x2, .int x3] (s, some (.long r)) := by
  unfold fn_X12_name at h
  refine cu_of rfl uk.1.1 (Nat.le_of_ble_eq_true rfl) ?_
  show GU _ _ _ _ _ _ _ _ _ 0 [(0, .ref (B + 1079)), (1, .int x1), (2, .int x2), (3, .int x3)] []
  refine uu_iload_n dX12_name_0 rfl (List.mem_of_getElem? (i := 1) rfl) ?_
  refine uu_iconst (v := 4) dX12_name_1 (by decide) ?_
  refine uu_icmp_ne (tgt := 21) dX12_name_2 (by decide) (fun c1 => ?_) (fun c1 => ?_)
  · replace h := uu_neg c1 h
    refine uu_iconst (v := 0) dX12_name_21 (by decide) ?_
    exact xb_X12_name_22 uk  h
  · replace h := uu_pos c1 h
    refine uu_iload_n dX12_name_5 rfl (List.mem_of_getElem? (i := 2) rfl) ?_
    refine uu_if_lt (tgt := 21) dX12_name_6 (by decide) (fun c2 => ?_) (fun c2 => ?_)
    · replace h := uu_pos c2 h
      refine uu_iconst (v := 0) dX12_name_21 (by decide) ?_
      exact xb_X12_name_22 uk  h
    · replace h := uu_neg c2 h
      refine uu_iload_n dX12_name_9 rfl (List.mem_of_getElem? (i := 2) rfl) ?_
      refine uu_aload_n dX12_name_10 rfl (List.mem_of_getElem? (i := 0) rfl) ?_
      refine uu_geti (ci := 12) (N := 153) fX12_566 (by decide) so_1079.is (by decide) (by decide) dX12_name_11 ?_
      refine uu_icmp_ge (tgt := 21) dX12_name_14 (by decide) (fun c3 => ?_) (fun c3 => ?_)
      · replace h := uu_pos c3 h
        refine uu_iconst (v := 0) dX12_name_21 (by decide) ?_
        exact xb_X12_name_22 uk  h
      · replace h := uu_neg c3 h
        refine uu_iconst (v := 1) dX12_name_17 (by decide) ?_
        refine uu_goto (tgt := 22) dX12_name_18 (by decide) ?_
        exact xb_X12_name_22 uk  h
def fb_X12_count_66  (x1 : Int32) (s : uS) : Option Int32 := if x1 = 0 then (some ((s.I 1079 70) + (s.I 1079 71))) else (if x1 = 1 then (some (s.I 1079 71)) else (if x1 = 2 then (some (s.I 1079 69)) else (if x1 = 3 then (some (s.I 1079 1)) else (if x1 = 4 then (some (s.I 1079 2)) else (if x1 = 5 then (some (s.I 1079 5)) else (if x1 = 6 then (if (s.I 1079 0) = 0 then (some (0 : Int32)) else (some (1 : Int32))) else (if x1 = 7 then (if (s.I 1079 113) = 0 then (some (0 : Int32)) else (some (1 : Int32))) else (some (-1 : Int32)))))))))
set_option maxRecDepth 100000 in
set_option maxHeartbeats 4000000 in
theorem xb_X12_count_66 {l : Launch} {D : va_G} {A : Nat → ClassId} {B : Nat} {Z : State → Heap → Prop} {vF : Value} (uk : uK B Z vF)   {x1 : Int32} {s : uS} {r : Int32}  (h : fb_X12_count_66  x1 s = some r) : GU l D A B Z mX12_count 0 (s, some (.int r)) s 66 [(0, .ref (B + 1079)), (1, .int x1)] [] := by
  unfold fb_X12_count_66 at h
  refine uu_iload_n dX12_count_66 rfl (List.mem_of_getElem? (i := 1) rfl) ?_
  by_cases c67_0 : x1 = 0
  · replace h := uu_pos c67_0 h
    refine uu_tabE (tgt := 112) (off := 45) (v := 0) dX12_count_67 c67_0 (by decide) (by decide) rfl (by decide) ?_
    refine uu_aload_n dX12_count_112 rfl (List.mem_of_getElem? (i := 0) rfl) ?_
    refine uu_geti (ci := 12) (N := 153) fX12_563 (by decide) so_1079.is (by decide) (by decide) dX12_count_113 ?_
    refine uu_aload_n dX12_count_116 rfl (List.mem_of_getElem? (i := 0) rfl) ?_
    refine uu_geti (ci := 12) (N := 153) fX12_566 (by decide) so_1079.is (by decide) (by decide) dX12_count_117 ?_
    refine uu_iadd dX12_count_120 ?_
    have hr := Option.some.inj h
    subst hr
    exact uu_iret rfl dX12_count_121
  replace h := uu_neg c67_0 h
  by_cases c67_1 : x1 = 1
  · replace h := uu_pos c67_1 h
    refine uu_tabE (tgt := 122) (off := 55) (v := 1) dX12_count_67 c67_1 (by decide) (by decide) rfl (by decide) ?_
    refine uu_aload_n dX12_count_122 rfl (List.mem_of_getElem? (i := 0) rfl) ?_
    refine uu_geti (ci := 12) (N := 153) fX12_566 (by decide) so_1079.is (by decide) (by decide) dX12_count_123 ?_
    have hr := Option.some.inj h
    subst hr
    exact uu_iret rfl dX12_count_126
  replace h := uu_neg c67_1 h
  by_cases c67_2 : x1 = 2
  · replace h := uu_pos c67_2 h
    refine uu_tabE (tgt := 127) (off := 60) (v := 2) dX12_count_67 c67_2 (by decide) (by decide) rfl (by decide) ?_
    refine uu_aload_n dX12_count_127 rfl (List.mem_of_getElem? (i := 0) rfl) ?_
    refine uu_geti (ci := 12) (N := 153) fX12_552 (by decide) so_1079.is (by decide) (by decide) dX12_count_128 ?_
    have hr := Option.some.inj h
    subst hr
    exact uu_iret rfl dX12_count_131
  replace h := uu_neg c67_2 h
  by_cases c67_3 : x1 = 3
  · replace h := uu_pos c67_3 h
    refine uu_tabE (tgt := 132) (off := 65) (v := 3) dX12_count_67 c67_3 (by decide) (by decide) rfl (by decide) ?_
    refine uu_aload_n dX12_count_132 rfl (List.mem_of_getElem? (i := 0) rfl) ?_
    refine uu_geti (ci := 12) (N := 153) fX12_863 (by decide) so_1079.is (by decide) (by decide) dX12_count_133 ?_
    have hr := Option.some.inj h
    subst hr
    exact uu_iret rfl dX12_count_136
  replace h := uu_neg c67_3 h
  by_cases c67_4 : x1 = 4
  · replace h := uu_pos c67_4 h
    refine uu_tabE (tgt := 137) (off := 70) (v := 4) dX12_count_67 c67_4 (by decide) (by decide) rfl (by decide) ?_
    refine uu_aload_n dX12_count_137 rfl (List.mem_of_getElem? (i := 0) rfl) ?_
    refine uu_geti (ci := 12) (N := 153) fX12_18 (by decide) so_1079.is (by decide) (by decide) dX12_count_138 ?_
    have hr := Option.some.inj h
    subst hr
    exact uu_iret rfl dX12_count_141
  replace h := uu_neg c67_4 h
  by_cases c67_5 : x1 = 5
  · replace h := uu_pos c67_5 h
    refine uu_tabE (tgt := 142) (off := 75) (v := 5) dX12_count_67 c67_5 (by decide) (by decide) rfl (by decide) ?_
    refine uu_aload_n dX12_count_142 rfl (List.mem_of_getElem? (i := 0) rfl) ?_
    refine uu_geti (ci := 12) (N := 153) fX12_25 (by decide) so_1079.is (by decide) (by decide) dX12_count_143 ?_
    have hr := Option.some.inj h
    subst hr
    exact uu_iret rfl dX12_count_146
  replace h := uu_neg c67_5 h
  by_cases c67_6 : x1 = 6
  · replace h := uu_pos c67_6 h
    refine uu_tabE (tgt := 147) (off := 80) (v := 6) dX12_count_67 c67_6 (by decide) (by decide) rfl (by decide) ?_
    refine uu_aload_n dX12_count_147 rfl (List.mem_of_getElem? (i := 0) rfl) ?_
    refine uu_geti (ci := 12) (N := 153) fX12_7 (by decide) so_1079.is (by decide) (by decide) dX12_count_148 ?_
    refine uu_if_eq (tgt := 158) dX12_count_151 (by decide) (fun c1 => ?_) (fun c1 => ?_)
    · replace h := uu_pos c1 h
      refine uu_iconst (v := 0) dX12_count_158 (by decide) ?_
      have hr := Option.some.inj h
      subst hr
      exact uu_iret rfl dX12_count_159
    · replace h := uu_neg c1 h
      refine uu_iconst (v := 1) dX12_count_154 (by decide) ?_
      refine uu_goto (tgt := 159) dX12_count_155 (by decide) ?_
      have hr := Option.some.inj h
      subst hr
      exact uu_iret rfl dX12_count_159
  replace h := uu_neg c67_6 h
  by_cases c67_7 : x1 = 7
  · replace h := uu_pos c67_7 h
    refine uu_tabE (tgt := 160) (off := 93) (v := 7) dX12_count_67 c67_7 (by decide) (by decide) rfl (by decide) ?_
    refine uu_aload_n dX12_count_160 rfl (List.mem_of_getElem? (i := 0) rfl) ?_
    refine uu_geti (ci := 12) (N := 153) fX12_11 (by decide) so_1079.is (by decide) (by decide) dX12_count_161 ?_
    refine uu_if_eq (tgt := 171) dX12_count_164 (by decide) (fun c2 => ?_) (fun c2 => ?_)
    · replace h := uu_pos c2 h
      refine uu_iconst (v := 0) dX12_count_171 (by decide) ?_
      have hr := Option.some.inj h
      subst hr
      exact uu_iret rfl dX12_count_172
    · replace h := uu_neg c2 h
      refine uu_iconst (v := 1) dX12_count_167 (by decide) ?_
      refine uu_goto (tgt := 172) dX12_count_168 (by decide) ?_
      have hr := Option.some.inj h
      subst hr
      exact uu_iret rfl dX12_count_172
  replace h := uu_neg c67_7 h
  have cx67 : (x1).toInt < 0 ∨ 7 < (x1).toInt := by
    refine Decidable.byContradiction fun q => ?_
    rcases (show (x1).toInt = 0 ∨ (x1).toInt = 1 ∨ (x1).toInt = 2 ∨ (x1).toInt = 3 ∨ (x1).toInt = 4 ∨ (x1).toInt = 5 ∨ (x1).toInt = 6 ∨ (x1).toInt = 7 by omega) with q | q | q | q | q | q | q | q
    · exact c67_0 (sw_eq q (by decide))
    · exact c67_1 (sw_eq q (by decide))
    · exact c67_2 (sw_eq q (by decide))
    · exact c67_3 (sw_eq q (by decide))
    · exact c67_4 (sw_eq q (by decide))
    · exact c67_5 (sw_eq q (by decide))
    · exact c67_6 (sw_eq q (by decide))
    · exact c67_7 (sw_eq q (by decide))
  refine uu_tableOut (tgt := 173) dX12_count_67 cx67 (by decide) ?_
  refine uu_iconst (v := -1) dX12_count_173 (by decide) ?_
  have hr := Option.some.inj h
  subst hr
  exact uu_iret rfl dX12_count_174
def fb_X12_count_44  (x1 : Int32) (s : uS) : Option Int32 := if x1 < 30 then (fb_X12_count_66 x1 s) else (if (33 : Int32) < x1 then (fb_X12_count_66 x1 s) else ((iget 20 s 1126 (x1 - 30)).bind fun v3 => some v3))
set_option maxRecDepth 100000 in
set_option maxHeartbeats 4000000 in
theorem xb_X12_count_44 {l : Launch} {D : va_G} {A : Nat → ClassId} {B : Nat} {Z : State → Heap → Prop} {vF : Value} (uk : uK B Z vF)   {x1 : Int32} {s : uS} {r : Int32}  (h : fb_X12_count_44  x1 s = some r) : GU l D A B Z mX12_count 0 (s, some (.int r)) s 44 [(0, .ref (B + 1079)), (1, .int x1)] [] := by
  unfold fb_X12_count_44 at h
  refine uu_iload_n dX12_count_44 rfl (List.mem_of_getElem? (i := 1) rfl) ?_
  refine uu_bipush (v := 30) dX12_count_45 (by decide) ?_
  refine uu_icmp_lt (tgt := 66) dX12_count_47 (by decide) (fun c1 => ?_) (fun c1 => ?_)
  · replace h := uu_pos c1 h
    exact xb_X12_count_66 uk  h
  · replace h := uu_neg c1 h
    refine uu_iload_n dX12_count_50 rfl (List.mem_of_getElem? (i := 1) rfl) ?_
    refine uu_bipush (v := 33) dX12_count_51 (by decide) ?_
    refine uu_icmp_gt (tgt := 66) dX12_count_53 (by decide) (fun c2 => ?_) (fun c2 => ?_)
    · replace h := uu_pos c2 h
      exact xb_X12_count_66 uk  h
    · replace h := uu_neg c2 h
      refine uu_aload_n dX12_count_56 rfl (List.mem_of_getElem? (i := 0) rfl) ?_
      refine uu_geta (ci := 12) (N := 153) fX12_796 (by decide) so_1079.is (by decide) (c := 1126) (by decide) dX12_count_57 ?_
      refine uu_iload_n dX12_count_60 rfl (List.mem_of_getElem? (i := 1) rfl) ?_
      refine uu_bipush (v := 30) dX12_count_61 (by decide) ?_
      refine uu_isub dX12_count_63 ?_
      obtain ⟨v3, e4, h⟩ := uu_ob h
      refine uu_iald e4 dX12_count_64 ?_
      have hr := Option.some.inj h
      subst hr
      exact uu_iret rfl dX12_count_65
def fb_X12_count_22  (x1 : Int32) (s : uS) : Option Int32 := if x1 < 20 then (fb_X12_count_44 x1 s) else (if (23 : Int32) < x1 then (fb_X12_count_44 x1 s) else ((iget 20 s 1129 (x1 - 20)).bind fun v3 => some v3))
set_option maxRecDepth 100000 in
set_option maxHeartbeats 4000000 in
theorem xb_X12_count_22 {l : Launch} {D : va_G} {A : Nat → ClassId} {B : Nat} {Z : State → Heap → Prop} {vF : Value} (uk : uK B Z vF)   {x1 : Int32} {s : uS} {r : Int32}  (h : fb_X12_count_22  x1 s = some r) : GU l D A B Z mX12_count 0 (s, some (.int r)) s 22 [(0, .ref (B + 1079)), (1, .int x1)] [] := by
  unfold fb_X12_count_22 at h
  refine uu_iload_n dX12_count_22 rfl (List.mem_of_getElem? (i := 1) rfl) ?_
  refine uu_bipush (v := 20) dX12_count_23 (by decide) ?_
  refine uu_icmp_lt (tgt := 44) dX12_count_25 (by decide) (fun c1 => ?_) (fun c1 => ?_)
  · replace h := uu_pos c1 h
    exact xb_X12_count_44 uk  h
  · replace h := uu_neg c1 h
    refine uu_iload_n dX12_count_28 rfl (List.mem_of_getElem? (i := 1) rfl) ?_
    refine uu_bipush (v := 23) dX12_count_29 (by decide) ?_
    refine uu_icmp_gt (tgt := 44) dX12_count_31 (by decide) (fun c2 => ?_) (fun c2 => ?_)
    · replace h := uu_pos c2 h
      exact xb_X12_count_44 uk  h
    · replace h := uu_neg c2 h
      refine uu_aload_n dX12_count_34 rfl (List.mem_of_getElem? (i := 0) rfl) ?_
      refine uu_geta (ci := 12) (N := 153) fX12_857 (by decide) so_1079.is (by decide) (c := 1129) (by decide) dX12_count_35 ?_
      refine uu_iload_n dX12_count_38 rfl (List.mem_of_getElem? (i := 1) rfl) ?_
      refine uu_bipush (v := 20) dX12_count_39 (by decide) ?_
      refine uu_isub dX12_count_41 ?_
      obtain ⟨v3, e4, h⟩ := uu_ob h
      refine uu_iald e4 dX12_count_42 ?_
      have hr := Option.some.inj h
      subst hr
      exact uu_iret rfl dX12_count_43
def fn_X12_count (x1 : Int32) (s : uS) : Option Int32 := if x1 < 10 then (fb_X12_count_22 x1 s) else (if (13 : Int32) < x1 then (fb_X12_count_22 x1 s) else ((iget 20 s 1149 (x1 - 10)).bind fun v3 => some v3))
set_option maxRecDepth 100000 in
set_option maxHeartbeats 4000000 in
theorem xc_X12_count {l : Launch} {D : va_G} {A : Nat → ClassId} {B : Nat} {Z : State → Heap → Prop} {vF : Value} (uk : uK B Z vF) {x1 : Int32} {s : uS} {r : Int32}  (h : fn_X12_count x1 s = some r) : CU l D A B Z 0 mX12_count s [.ref (B + 1079), .int x1] (s, some (.int r)) := by
  unfold fn_X12_count at h
  refine cu_of rfl uk.1.1 (Nat.le_of_ble_eq_true rfl) ?_
  show GU _ _ _ _ _ _ _ _ _ 0 [(0, .ref (B + 1079)), (1, .int x1)] []
  refine uu_iload_n dX12_count_0 rfl (List.mem_of_getElem? (i := 1) rfl) ?_
  refine uu_bipush (v := 10) dX12_count_1 (by decide) ?_
  refine uu_icmp_lt (tgt := 22) dX12_count_3 (by decide) (fun c1 => ?_) (fun c1 => ?_)
  · replace h := uu_pos c1 h
    exact xb_X12_count_22 uk  h
  · replace h := uu_neg c1 h
    refine uu_iload_n dX12_count_6 rfl (List.mem_of_getElem? (i := 1) rfl) ?_
    refine uu_bipush (v := 13) dX12_count_7 (by decide) ?_
    refine uu_icmp_gt (tgt := 22) dX12_count_9 (by decide) (fun c2 => ?_) (fun c2 => ?_)
    · replace h := uu_pos c2 h
      exact xb_X12_count_22 uk  h
    · replace h := uu_neg c2 h
      refine uu_aload_n dX12_count_12 rfl (List.mem_of_getElem? (i := 0) rfl) ?_
      refine uu_geta (ci := 12) (N := 153) fX12_1180 (by decide) so_1079.is (by decide) (c := 1149) (by decide) dX12_count_13 ?_
      refine uu_iload_n dX12_count_16 rfl (List.mem_of_getElem? (i := 1) rfl) ?_
      refine uu_bipush (v := 10) dX12_count_17 (by decide) ?_
      refine uu_isub dX12_count_19 ?_
      obtain ⟨v3, e4, h⟩ := uu_ob h
      refine uu_iald e4 dX12_count_20 ?_
      have hr := Option.some.inj h
      subst hr
      exact uu_iret rfl dX12_count_21
