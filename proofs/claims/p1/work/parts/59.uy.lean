abbrev mX12_countIn : hM := (yX12_countIn, cX12_countIn, 3, (some (.boolean)))
theorem dX12_countIn_60 : decode cX12_countIn 60 = .ok (.aload_n 0, 1) := by decide +kernel
theorem dX12_countIn_61 : decode cX12_countIn 61 = .ok (.iload_n 1, 1) := by decide +kernel
theorem dX12_countIn_62 : decode cX12_countIn 62 = .ok (.iload_n 2, 1) := by decide +kernel
theorem dX12_countIn_63 : decode cX12_countIn 63 = .ok (.invokevirtual 1258, 3) := by decide +kernel
theorem dX12_countIn_66 : decode cX12_countIn 66 = .ok (.ireturn, 1) := by decide +kernel
theorem dX12_countIn_0 : decode cX12_countIn 0 = .ok (.iload_n 2, 1) := by decide +kernel
theorem dX12_countIn_1 : decode cX12_countIn 1 = .ok (.invokestatic 137, 3) := by decide +kernel
theorem dX12_countIn_4 : decode cX12_countIn 4 = .ok (.ifCond .eq 31, 3) := by decide +kernel
theorem dX12_countIn_35 : decode cX12_countIn 35 = .ok (.iload_n 2, 1) := by decide +kernel
theorem dX12_countIn_36 : decode cX12_countIn 36 = .ok (.bipush 43, 2) := by decide +kernel
theorem dX12_countIn_38 : decode cX12_countIn 38 = .ok (.if_icmp .ne 22, 3) := by decide +kernel
theorem dX12_countIn_41 : decode cX12_countIn 41 = .ok (.aload_n 0, 1) := by decide +kernel
theorem dX12_countIn_42 : decode cX12_countIn 42 = .ok (.getfield 1273, 3) := by decide +kernel
theorem dX12_countIn_45 : decode cX12_countIn 45 = .ok (.iload_n 1, 1) := by decide +kernel
theorem dX12_countIn_46 : decode cX12_countIn 46 = .ok (.iaload, 1) := by decide +kernel
theorem dX12_countIn_47 : decode cX12_countIn 47 = .ok (.ifCond .le 13, 3) := by decide +kernel
theorem dX12_countIn_50 : decode cX12_countIn 50 = .ok (.aload_n 0, 1) := by decide +kernel
theorem dX12_countIn_51 : decode cX12_countIn 51 = .ok (.iload_n 1, 1) := by decide +kernel
theorem dX12_countIn_52 : decode cX12_countIn 52 = .ok (.bipush 6, 2) := by decide +kernel
theorem dX12_countIn_54 : decode cX12_countIn 54 = .ok (.invokevirtual 1267, 3) := by decide +kernel
theorem dX12_countIn_57 : decode cX12_countIn 57 = .ok (.goto 9, 3) := by decide +kernel
theorem dX12_countIn_7 : decode cX12_countIn 7 = .ok (.aload_n 0, 1) := by decide +kernel
theorem dX12_countIn_8 : decode cX12_countIn 8 = .ok (.getfield 1273, 3) := by decide +kernel
theorem dX12_countIn_11 : decode cX12_countIn 11 = .ok (.iload_n 1, 1) := by decide +kernel
theorem dX12_countIn_12 : decode cX12_countIn 12 = .ok (.iaload, 1) := by decide +kernel
theorem dX12_countIn_13 : decode cX12_countIn 13 = .ok (.bipush 9, 2) := by decide +kernel
theorem dX12_countIn_15 : decode cX12_countIn 15 = .ok (.if_icmp .ge 13, 3) := by decide +kernel
theorem dX12_countIn_28 : decode cX12_countIn 28 = .ok (.aload_n 0, 1) := by decide +kernel
theorem dX12_countIn_29 : decode cX12_countIn 29 = .ok (.iload_n 1, 1) := by decide +kernel
theorem dX12_countIn_30 : decode cX12_countIn 30 = .ok (.iload_n 2, 1) := by decide +kernel
theorem dX12_countIn_31 : decode cX12_countIn 31 = .ok (.invokevirtual 1258, 3) := by decide +kernel
theorem dX12_countIn_34 : decode cX12_countIn 34 = .ok (.ireturn, 1) := by decide +kernel
theorem dX12_countIn_18 : decode cX12_countIn 18 = .ok (.aload_n 0, 1) := by decide +kernel
theorem dX12_countIn_19 : decode cX12_countIn 19 = .ok (.iload_n 1, 1) := by decide +kernel
theorem dX12_countIn_20 : decode cX12_countIn 20 = .ok (.iload_n 2, 1) := by decide +kernel
theorem dX12_countIn_21 : decode cX12_countIn 21 = .ok (.iconst 5, 1) := by decide +kernel
theorem dX12_countIn_22 : decode cX12_countIn 22 = .ok (.invokevirtual 1276, 3) := by decide +kernel
theorem dX12_countIn_25 : decode cX12_countIn 25 = .ok (.goto 9, 3) := by decide +kernel
def fb_X12_countIn_60  (x1 : Int32) (x2 : Int32) (s : uS) : Option (uS × Bool) := (fn_X12_pass x1 x2 s).bind fun r1 => some (r1.1, r1.2)
set_option maxRecDepth 100000 in
set_option maxHeartbeats 4000000 in
theorem xb_X12_countIn_60 {l : Launch} {D : va_G} {A : Nat → ClassId} {B : Nat} {Z : State → Heap → Prop} {vF : Value} (uk : uK B Z vF)   {x1 : Int32} {x2 : Int32} {s : uS} {r : (uS × Bool)}  (h : fb_X12_countIn_60  x1 x2 s = some r) : GU l D A B Z mX12_countIn 2 (r.1, some (.int (bI r.2))) s 60 [(0, .ref (B + 1079)), (1, .int x1), (2, .int x2)] [] := by
  unfold fb_X12_countIn_60 at h
  refine uu_aload_n dX12_countIn_60 rfl (List.mem_of_getElem? (i := 0) rfl) ?_
  refine uu_iload_n dX12_countIn_61 rfl (List.mem_of_getElem? (i := 1) rfl) ?_
  refine uu_iload_n dX12_countIn_62 rfl (List.mem_of_getElem? (i := 2) rfl) ?_
  obtain ⟨r1, e2, h⟩ := uu_ob h
  refine uu_cv (d1 := 0) (k := 1079) (ci := 12) (T := TX12) (N := 153) (As := [.int x1, .int x2]) (st := []) (st' := [.int (bI r1.2)]) (xc_X12_pass uk  e2) so_1079.is (by decide) rfl kX12_pass lX12_1258 sX12_pass (by decide) (Nat.le_of_ble_eq_true rfl) dX12_countIn_63 rfl ?_
  have hr := Option.some.inj h
  subst hr
  exact uu_zret (x := bI r1.2) rfl (bI_z _) dX12_countIn_66
def fn_X12_countIn (x1 : Int32) (x2 : Int32) (s : uS) : Option (uS × Bool) := (fn_X12_isDigit x2 s).bind fun v1 => if v1 = true then ((iget 20 s 1162 x1).bind fun v10 => if (9 : Int32) ≤ v10 then ((fn_X12_pass x1 x2 s).bind fun r13 => some (r13.1, r13.2)) else ((fn_X12_digitIn x1 x2 5 s).bind fun r15 => some (r15.1, r15.2))) else (if x2 = 43 then ((iget 20 s 1162 x1).bind fun v5 => if v5 ≤ 0 then (fb_X12_countIn_60 x1 x2 s) else ((fn_X12_go x1 6 s).bind fun r8 => some (r8.1, r8.2))) else (fb_X12_countIn_60 x1 x2 s))
set_option maxRecDepth 100000 in
set_option maxHeartbeats 4000000 in
theorem xc_X12_countIn {l : Launch} {D : va_G} {A : Nat → ClassId} {B : Nat} {Z : State → Heap → Prop} {vF : Value} (uk : uK B Z vF) {x1 : Int32} {x2 : Int32} {s : uS} {r : (uS × Bool)}  (h : fn_X12_countIn x1 x2 s = some r) : CU l D A B Z 2 mX12_countIn s [.ref (B + 1079), .int x1, .int x2] (r.1, some (.int (bI r.2))) := by
  unfold fn_X12_countIn at h
  refine cu_of rfl uk.1.1 (Nat.le_of_ble_eq_true rfl) ?_
  show GU _ _ _ _ _ _ _ _ _ 0 [(0, .ref (B + 1079)), (1, .int x1), (2, .int x2)] []
  refine uu_iload_n dX12_countIn_0 rfl (List.mem_of_getElem? (i := 2) rfl) ?_
  obtain ⟨v1, e2, h⟩ := uu_ob h
  refine uu_cs (d1 := 0) (As := [.int x2]) (st := []) (st' := [.int (bI v1)]) (xc_X12_isDigit uk  e2) kX12_isDigit lX12_137 sX12_isDigit (by decide) (Nat.le_of_ble_eq_true rfl) dX12_countIn_1 rfl ?_
  refine uu_ifb_eq (tgt := 35) dX12_countIn_4 (by decide) (fun c3 => ?_) (fun c3 => ?_)
  · replace h := uu_neg c3 h
    refine uu_iload_n dX12_countIn_35 rfl (List.mem_of_getElem? (i := 2) rfl) ?_
    refine uu_bipush (v := 43) dX12_countIn_36 (by decide) ?_
    refine uu_icmp_ne (tgt := 60) dX12_countIn_38 (by decide) (fun c4 => ?_) (fun c4 => ?_)
    · replace h := uu_neg c4 h
      exact xb_X12_countIn_60 uk  h
    · replace h := uu_pos c4 h
      refine uu_aload_n dX12_countIn_41 rfl (List.mem_of_getElem? (i := 0) rfl) ?_
      refine uu_geta (ci := 12) (N := 153) fX12_1273 (by decide) so_1079.is (by decide) (c := 1162) (by decide) dX12_countIn_42 ?_
      refine uu_iload_n dX12_countIn_45 rfl (List.mem_of_getElem? (i := 1) rfl) ?_
      obtain ⟨v5, e6, h⟩ := uu_ob h
      refine uu_iald e6 dX12_countIn_46 ?_
      refine uu_if_le (tgt := 60) dX12_countIn_47 (by decide) (fun c7 => ?_) (fun c7 => ?_)
      · replace h := uu_pos c7 h
        exact xb_X12_countIn_60 uk  h
      · replace h := uu_neg c7 h
        refine uu_aload_n dX12_countIn_50 rfl (List.mem_of_getElem? (i := 0) rfl) ?_
        refine uu_iload_n dX12_countIn_51 rfl (List.mem_of_getElem? (i := 1) rfl) ?_
        refine uu_bipush (v := 6) dX12_countIn_52 (by decide) ?_
        obtain ⟨r8, e9, h⟩ := uu_ob h
        refine uu_cv (d1 := 0) (k := 1079) (ci := 12) (T := TX12) (N := 153) (As := [.int x1, .int 6]) (st := []) (st' := [.int (bI r8.2)]) (xc_X12_go uk  e9) so_1079.is (by decide) rfl kX12_go lX12_1267 sX12_go (by decide) (Nat.le_of_ble_eq_true rfl) dX12_countIn_54 rfl ?_
        refine uu_goto (tgt := 66) dX12_countIn_57 (by decide) ?_
        have hr := Option.some.inj h
        subst hr
        exact uu_zret (x := bI r8.2) rfl (bI_z _) dX12_countIn_66
  · replace h := uu_pos c3 h
    refine uu_aload_n dX12_countIn_7 rfl (List.mem_of_getElem? (i := 0) rfl) ?_
    refine uu_geta (ci := 12) (N := 153) fX12_1273 (by decide) so_1079.is (by decide) (c := 1162) (by decide) dX12_countIn_8 ?_
    refine uu_iload_n dX12_countIn_11 rfl (List.mem_of_getElem? (i := 1) rfl) ?_
    obtain ⟨v10, e11, h⟩ := uu_ob h
    refine uu_iald e11 dX12_countIn_12 ?_
    refine uu_bipush (v := 9) dX12_countIn_13 (by decide) ?_
    refine uu_icmp_ge (tgt := 28) dX12_countIn_15 (by decide) (fun c12 => ?_) (fun c12 => ?_)
    · replace h := uu_pos c12 h
      refine uu_aload_n dX12_countIn_28 rfl (List.mem_of_getElem? (i := 0) rfl) ?_
      refine uu_iload_n dX12_countIn_29 rfl (List.mem_of_getElem? (i := 1) rfl) ?_
      refine uu_iload_n dX12_countIn_30 rfl (List.mem_of_getElem? (i := 2) rfl) ?_
      obtain ⟨r13, e14, h⟩ := uu_ob h
      refine uu_cv (d1 := 0) (k := 1079) (ci := 12) (T := TX12) (N := 153) (As := [.int x1, .int x2]) (st := []) (st' := [.int (bI r13.2)]) (xc_X12_pass uk  e14) so_1079.is (by decide) rfl kX12_pass lX12_1258 sX12_pass (by decide) (Nat.le_of_ble_eq_true rfl) dX12_countIn_31 rfl ?_
      have hr := Option.some.inj h
      subst hr
      exact uu_zret (x := bI r13.2) rfl (bI_z _) dX12_countIn_34
    · replace h := uu_neg c12 h
      refine uu_aload_n dX12_countIn_18 rfl (List.mem_of_getElem? (i := 0) rfl) ?_
      refine uu_iload_n dX12_countIn_19 rfl (List.mem_of_getElem? (i := 1) rfl) ?_
      refine uu_iload_n dX12_countIn_20 rfl (List.mem_of_getElem? (i := 2) rfl) ?_
      refine uu_iconst (v := 5) dX12_countIn_21 (by decide) ?_
      obtain ⟨r15, e16, h⟩ := uu_ob h
      refine uu_cv (d1 := 1) (k := 1079) (ci := 12) (T := TX12) (N := 153) (As := [.int x1, .int x2, .int 5]) (st := []) (st' := [.int (bI r15.2)]) (xc_X12_digitIn uk  e16) so_1079.is (by decide) rfl kX12_digitIn lX12_1276 sX12_digitIn (by decide) (Nat.le_of_ble_eq_true rfl) dX12_countIn_22 rfl ?_
      refine uu_goto (tgt := 34) dX12_countIn_25 (by decide) ?_
      have hr := Option.some.inj h
      subst hr
      exact uu_zret (x := bI r15.2) rfl (bI_z _) dX12_countIn_34
abbrev mX12_numberIn : hM := (yX12_numberIn, cX12_numberIn, 3, (some (.boolean)))
theorem dX12_numberIn_0 : decode cX12_numberIn 0 = .ok (.iload_n 2, 1) := by decide +kernel
theorem dX12_numberIn_1 : decode cX12_numberIn 1 = .ok (.invokestatic 137, 3) := by decide +kernel
theorem dX12_numberIn_4 : decode cX12_numberIn 4 = .ok (.ifCond .eq 32, 3) := by decide +kernel
theorem dX12_numberIn_36 : decode cX12_numberIn 36 = .ok (.aload_n 0, 1) := by decide +kernel
theorem dX12_numberIn_37 : decode cX12_numberIn 37 = .ok (.getfield 1249, 3) := by decide +kernel
theorem dX12_numberIn_40 : decode cX12_numberIn 40 = .ok (.iload_n 1, 1) := by decide +kernel
theorem dX12_numberIn_41 : decode cX12_numberIn 41 = .ok (.aload_n 0, 1) := by decide +kernel
theorem dX12_numberIn_42 : decode cX12_numberIn 42 = .ok (.getfield 1249, 3) := by decide +kernel
theorem dX12_numberIn_45 : decode cX12_numberIn 45 = .ok (.iload_n 1, 1) := by decide +kernel
theorem dX12_numberIn_46 : decode cX12_numberIn 46 = .ok (.iaload, 1) := by decide +kernel
theorem dX12_numberIn_47 : decode cX12_numberIn 47 = .ok (.iconst 1, 1) := by decide +kernel
theorem dX12_numberIn_48 : decode cX12_numberIn 48 = .ok (.aload_n 0, 1) := by decide +kernel
theorem dX12_numberIn_49 : decode cX12_numberIn 49 = .ok (.getfield 1210, 3) := by decide +kernel
theorem dX12_numberIn_52 : decode cX12_numberIn 52 = .ok (.iload_n 1, 1) := by decide +kernel
theorem dX12_numberIn_53 : decode cX12_numberIn 53 = .ok (.iaload, 1) := by decide +kernel
theorem dX12_numberIn_54 : decode cX12_numberIn 54 = .ok (.ishl, 1) := by decide +kernel
theorem dX12_numberIn_55 : decode cX12_numberIn 55 = .ok (.ior, 1) := by decide +kernel
theorem dX12_numberIn_56 : decode cX12_numberIn 56 = .ok (.iastore, 1) := by decide +kernel
theorem dX12_numberIn_57 : decode cX12_numberIn 57 = .ok (.aload_n 0, 1) := by decide +kernel
theorem dX12_numberIn_58 : decode cX12_numberIn 58 = .ok (.getfield 1210, 3) := by decide +kernel
theorem dX12_numberIn_61 : decode cX12_numberIn 61 = .ok (.iload_n 1, 1) := by decide +kernel
theorem dX12_numberIn_62 : decode cX12_numberIn 62 = .ok (.aload_n 0, 1) := by decide +kernel
theorem dX12_numberIn_63 : decode cX12_numberIn 63 = .ok (.getfield 1210, 3) := by decide +kernel
theorem dX12_numberIn_66 : decode cX12_numberIn 66 = .ok (.iload_n 1, 1) := by decide +kernel
theorem dX12_numberIn_67 : decode cX12_numberIn 67 = .ok (.iaload, 1) := by decide +kernel
theorem dX12_numberIn_68 : decode cX12_numberIn 68 = .ok (.iconst 1, 1) := by decide +kernel
theorem dX12_numberIn_69 : decode cX12_numberIn 69 = .ok (.iadd, 1) := by decide +kernel
theorem dX12_numberIn_70 : decode cX12_numberIn 70 = .ok (.iastore, 1) := by decide +kernel
theorem dX12_numberIn_71 : decode cX12_numberIn 71 = .ok (.aload_n 0, 1) := by decide +kernel
theorem dX12_numberIn_72 : decode cX12_numberIn 72 = .ok (.iload_n 1, 1) := by decide +kernel
theorem dX12_numberIn_73 : decode cX12_numberIn 73 = .ok (.iload_n 2, 1) := by decide +kernel
theorem dX12_numberIn_74 : decode cX12_numberIn 74 = .ok (.invokevirtual 1264, 3) := by decide +kernel
theorem dX12_numberIn_77 : decode cX12_numberIn 77 = .ok (.ireturn, 1) := by decide +kernel
theorem dX12_numberIn_7 : decode cX12_numberIn 7 = .ok (.aload_n 0, 1) := by decide +kernel
theorem dX12_numberIn_8 : decode cX12_numberIn 8 = .ok (.getfield 1273, 3) := by decide +kernel
theorem dX12_numberIn_11 : decode cX12_numberIn 11 = .ok (.iload_n 1, 1) := by decide +kernel
theorem dX12_numberIn_12 : decode cX12_numberIn 12 = .ok (.iaload, 1) := by decide +kernel
theorem dX12_numberIn_13 : decode cX12_numberIn 13 = .ok (.bipush 9, 2) := by decide +kernel
theorem dX12_numberIn_15 : decode cX12_numberIn 15 = .ok (.if_icmp .ge 14, 3) := by decide +kernel
theorem dX12_numberIn_29 : decode cX12_numberIn 29 = .ok (.aload_n 0, 1) := by decide +kernel
theorem dX12_numberIn_30 : decode cX12_numberIn 30 = .ok (.iload_n 1, 1) := by decide +kernel
theorem dX12_numberIn_31 : decode cX12_numberIn 31 = .ok (.iload_n 2, 1) := by decide +kernel
theorem dX12_numberIn_32 : decode cX12_numberIn 32 = .ok (.invokevirtual 1258, 3) := by decide +kernel
theorem dX12_numberIn_35 : decode cX12_numberIn 35 = .ok (.ireturn, 1) := by decide +kernel
theorem dX12_numberIn_18 : decode cX12_numberIn 18 = .ok (.aload_n 0, 1) := by decide +kernel
theorem dX12_numberIn_19 : decode cX12_numberIn 19 = .ok (.iload_n 1, 1) := by decide +kernel
theorem dX12_numberIn_20 : decode cX12_numberIn 20 = .ok (.iload_n 2, 1) := by decide +kernel
theorem dX12_numberIn_21 : decode cX12_numberIn 21 = .ok (.bipush 10, 2) := by decide +kernel
theorem dX12_numberIn_23 : decode cX12_numberIn 23 = .ok (.invokevirtual 1276, 3) := by decide +kernel
theorem dX12_numberIn_26 : decode cX12_numberIn 26 = .ok (.goto 9, 3) := by decide +kernel
def fn_X12_numberIn (x1 : Int32) (x2 : Int32) (s : uS) : Option (uS × Bool) := (fn_X12_isDigit x2 s).bind fun v1 => if v1 = true then ((iget 20 s 1162 x1).bind fun v16 => if (9 : Int32) ≤ v16 then ((fn_X12_pass x1 x2 s).bind fun r19 => some (r19.1, r19.2)) else ((fn_X12_digitIn x1 x2 10 s).bind fun r21 => some (r21.1, r21.2))) else ((iget 20 s 1166 x1).bind fun v4 => (iget 20 s 1160 x1).bind fun v6 => (iput 20 s 1166 x1 (v4 ||| ((1 : Int32) <<< (v6 &&& 31)))).bind fun s8 => (iget 20 s8 1160 x1).bind fun v10 => (iput 20 s8 1160 x1 (v10 + 1)).bind fun s12 => (fn_X12_behindIn x1 x2 s12).bind fun r14 => some (r14.1, r14.2))
set_option maxRecDepth 100000 in
set_option maxHeartbeats 4000000 in
theorem xc_X12_numberIn {l : Launch} {D : va_G} {A : Nat → ClassId} {B : Nat} {Z : State → Heap → Prop} {vF : Value} (uk : uK B Z vF) {x1 : Int32} {x2 : Int32} {s : uS} {r : (uS × Bool)}  (h : fn_X12_numberIn x1 x2 s = some r) : CU l D A B Z 2 mX12_numberIn s [.ref (B + 1079), .int x1, .int x2] (r.1, some (.int (bI r.2))) := by
  unfold fn_X12_numberIn at h
  refine cu_of rfl uk.1.1 (Nat.le_of_ble_eq_true rfl) ?_
  show GU _ _ _ _ _ _ _ _ _ 0 [(0, .ref (B + 1079)), (1, .int x1), (2, .int x2)] []
  refine uu_iload_n dX12_numberIn_0 rfl (List.mem_of_getElem? (i := 2) rfl) ?_
  obtain ⟨v1, e2, h⟩ := uu_ob h
  refine uu_cs (d1 := 0) (As := [.int x2]) (st := []) (st' := [.int (bI v1)]) (xc_X12_isDigit uk  e2) kX12_isDigit lX12_137 sX12_isDigit (by decide) (Nat.le_of_ble_eq_true rfl) dX12_numberIn_1 rfl ?_
  refine uu_ifb_eq (tgt := 36) dX12_numberIn_4 (by decide) (fun c3 => ?_) (fun c3 => ?_)
  · replace h := uu_neg c3 h
    refine uu_aload_n dX12_numberIn_36 rfl (List.mem_of_getElem? (i := 0) rfl) ?_
    refine uu_geta (ci := 12) (N := 153) fX12_1249 (by decide) so_1079.is (by decide) (c := 1166) (by decide) dX12_numberIn_37 ?_
    refine uu_iload_n dX12_numberIn_40 rfl (List.mem_of_getElem? (i := 1) rfl) ?_
    refine uu_aload_n dX12_numberIn_41 rfl (List.mem_of_getElem? (i := 0) rfl) ?_
    refine uu_geta (ci := 12) (N := 153) fX12_1249 (by decide) so_1079.is (by decide) (c := 1166) (by decide) dX12_numberIn_42 ?_
    refine uu_iload_n dX12_numberIn_45 rfl (List.mem_of_getElem? (i := 1) rfl) ?_
    obtain ⟨v4, e5, h⟩ := uu_ob h
    refine uu_iald e5 dX12_numberIn_46 ?_
    refine uu_iconst (v := 1) dX12_numberIn_47 (by decide) ?_
    refine uu_aload_n dX12_numberIn_48 rfl (List.mem_of_getElem? (i := 0) rfl) ?_
    refine uu_geta (ci := 12) (N := 153) fX12_1210 (by decide) so_1079.is (by decide) (c := 1160) (by decide) dX12_numberIn_49 ?_
    refine uu_iload_n dX12_numberIn_52 rfl (List.mem_of_getElem? (i := 1) rfl) ?_
    obtain ⟨v6, e7, h⟩ := uu_ob h
    refine uu_iald e7 dX12_numberIn_53 ?_
    refine uu_ishl dX12_numberIn_54 ?_
    refine uu_ior dX12_numberIn_55 ?_
    obtain ⟨s8, e9, h⟩ := uu_ob h
    refine uu_iast e9 dX12_numberIn_56 ?_
    refine uu_aload_n dX12_numberIn_57 rfl (List.mem_of_getElem? (i := 0) rfl) ?_
    refine uu_geta (ci := 12) (N := 153) fX12_1210 (by decide) so_1079.is (by decide) (c := 1160) (by decide) dX12_numberIn_58 ?_
    refine uu_iload_n dX12_numberIn_61 rfl (List.mem_of_getElem? (i := 1) rfl) ?_
    refine uu_aload_n dX12_numberIn_62 rfl (List.mem_of_getElem? (i := 0) rfl) ?_
    refine uu_geta (ci := 12) (N := 153) fX12_1210 (by decide) so_1079.is (by decide) (c := 1160) (by decide) dX12_numberIn_63 ?_
    refine uu_iload_n dX12_numberIn_66 rfl (List.mem_of_getElem? (i := 1) rfl) ?_
    obtain ⟨v10, e11, h⟩ := uu_ob h
    refine uu_iald e11 dX12_numberIn_67 ?_
    refine uu_iconst (v := 1) dX12_numberIn_68 (by decide) ?_
    refine uu_iadd dX12_numberIn_69 ?_
    obtain ⟨s12, e13, h⟩ := uu_ob h
    refine uu_iast e13 dX12_numberIn_70 ?_
    refine uu_aload_n dX12_numberIn_71 rfl (List.mem_of_getElem? (i := 0) rfl) ?_
    refine uu_iload_n dX12_numberIn_72 rfl (List.mem_of_getElem? (i := 1) rfl) ?_
    refine uu_iload_n dX12_numberIn_73 rfl (List.mem_of_getElem? (i := 2) rfl) ?_
    obtain ⟨r14, e15, h⟩ := uu_ob h
    refine uu_cv (d1 := 1) (k := 1079) (ci := 12) (T := TX12) (N := 153) (As := [.int x1, .int x2]) (st := []) (st' := [.int (bI r14.2)]) (xc_X12_behindIn uk  e15) so_1079.is (by decide) rfl kX12_behindIn lX12_1264 sX12_behindIn (by decide) (Nat.le_of_ble_eq_true rfl) dX12_numberIn_74 rfl ?_
    have hr := Option.some.inj h
    subst hr
    exact uu_zret (x := bI r14.2) rfl (bI_z _) dX12_numberIn_77
  · replace h := uu_pos c3 h
    refine uu_aload_n dX12_numberIn_7 rfl (List.mem_of_getElem? (i := 0) rfl) ?_
    refine uu_geta (ci := 12) (N := 153) fX12_1273 (by decide) so_1079.is (by decide) (c := 1162) (by decide) dX12_numberIn_8 ?_
    refine uu_iload_n dX12_numberIn_11 rfl (List.mem_of_getElem? (i := 1) rfl) ?_
    obtain ⟨v16, e17, h⟩ := uu_ob h
    refine uu_iald e17 dX12_numberIn_12 ?_
    refine uu_bipush (v := 9) dX12_numberIn_13 (by decide) ?_
    refine uu_icmp_ge (tgt := 29) dX12_numberIn_15 (by decide) (fun c18 => ?_) (fun c18 => ?_)
    · replace h := uu_pos c18 h
      refine uu_aload_n dX12_numberIn_29 rfl (List.mem_of_getElem? (i := 0) rfl) ?_
      refine uu_iload_n dX12_numberIn_30 rfl (List.mem_of_getElem? (i := 1) rfl) ?_
      refine uu_iload_n dX12_numberIn_31 rfl (List.mem_of_getElem? (i := 2) rfl) ?_
      obtain ⟨r19, e20, h⟩ := uu_ob h
      refine uu_cv (d1 := 0) (k := 1079) (ci := 12) (T := TX12) (N := 153) (As := [.int x1, .int x2]) (st := []) (st' := [.int (bI r19.2)]) (xc_X12_pass uk  e20) so_1079.is (by decide) rfl kX12_pass lX12_1258 sX12_pass (by decide) (Nat.le_of_ble_eq_true rfl) dX12_numberIn_32 rfl ?_
      have hr := Option.some.inj h
      subst hr
      exact uu_zret (x := bI r19.2) rfl (bI_z _) dX12_numberIn_35
    · replace h := uu_neg c18 h
      refine uu_aload_n dX12_numberIn_18 rfl (List.mem_of_getElem? (i := 0) rfl) ?_
      refine uu_iload_n dX12_numberIn_19 rfl (List.mem_of_getElem? (i := 1) rfl) ?_
      refine uu_iload_n dX12_numberIn_20 rfl (List.mem_of_getElem? (i := 2) rfl) ?_
      refine uu_bipush (v := 10) dX12_numberIn_21 (by decide) ?_
      obtain ⟨r21, e22, h⟩ := uu_ob h
      refine uu_cv (d1 := 1) (k := 1079) (ci := 12) (T := TX12) (N := 153) (As := [.int x1, .int x2, .int 10]) (st := []) (st' := [.int (bI r21.2)]) (xc_X12_digitIn uk  e22) so_1079.is (by decide) rfl kX12_digitIn lX12_1276 sX12_digitIn (by decide) (Nat.le_of_ble_eq_true rfl) dX12_numberIn_23 rfl ?_
      refine uu_goto (tgt := 35) dX12_numberIn_26 (by decide) ?_
      have hr := Option.some.inj h
      subst hr
      exact uu_zret (x := bI r21.2) rfl (bI_z _) dX12_numberIn_35
abbrev mX12_literalIn : hM := (yX12_literalIn, cX12_literalIn, 3, (some (.boolean)))
theorem dX12_literalIn_0 : decode cX12_literalIn 0 = .ok (.aload_n 0, 1) := by decide +kernel
theorem dX12_literalIn_1 : decode cX12_literalIn 1 = .ok (.iload_n 1, 1) := by decide +kernel
theorem dX12_literalIn_2 : decode cX12_literalIn 2 = .ok (.iload_n 2, 1) := by decide +kernel
theorem dX12_literalIn_3 : decode cX12_literalIn 3 = .ok (.invokevirtual 1287, 3) := by decide +kernel
theorem dX12_literalIn_6 : decode cX12_literalIn 6 = .ok (.aload_n 0, 1) := by decide +kernel
theorem dX12_literalIn_7 : decode cX12_literalIn 7 = .ok (.iload_n 1, 1) := by decide +kernel
theorem dX12_literalIn_8 : decode cX12_literalIn 8 = .ok (.invokevirtual 1284, 3) := by decide +kernel
theorem dX12_literalIn_11 : decode cX12_literalIn 11 = .ok (.aload_n 0, 1) := by decide +kernel
theorem dX12_literalIn_12 : decode cX12_literalIn 12 = .ok (.getfield 1270, 3) := by decide +kernel
theorem dX12_literalIn_15 : decode cX12_literalIn 15 = .ok (.iload_n 1, 1) := by decide +kernel
theorem dX12_literalIn_16 : decode cX12_literalIn 16 = .ok (.iaload, 1) := by decide +kernel
theorem dX12_literalIn_17 : decode cX12_literalIn 17 = .ok (.if_icmp .ne 11, 3) := by decide +kernel
theorem dX12_literalIn_28 : decode cX12_literalIn 28 = .ok (.iconst 1, 1) := by decide +kernel
theorem dX12_literalIn_29 : decode cX12_literalIn 29 = .ok (.ireturn, 1) := by decide +kernel
theorem dX12_literalIn_20 : decode cX12_literalIn 20 = .ok (.aload_n 0, 1) := by decide +kernel
theorem dX12_literalIn_21 : decode cX12_literalIn 21 = .ok (.iload_n 1, 1) := by decide +kernel
theorem dX12_literalIn_22 : decode cX12_literalIn 22 = .ok (.invokevirtual 1281, 3) := by decide +kernel
theorem dX12_literalIn_25 : decode cX12_literalIn 25 = .ok (.goto 4, 3) := by decide +kernel
def fn_X12_literalIn (x1 : Int32) (x2 : Int32) (s : uS) : Option (uS × Bool) := (fn_X12_partByte x1 x2 s).bind fun s1 => (fn_X12_sizeOfPart x1 s1).bind fun v3 => (iget 20 s1 1161 x1).bind fun v5 => if v3 = v5 then ((fn_X12_partDone x1 s1).bind fun r8 => some (r8.1, r8.2)) else (some (s1, true))
set_option maxRecDepth 100000 in
set_option maxHeartbeats 4000000 in
theorem xc_X12_literalIn {l : Launch} {D : va_G} {A : Nat → ClassId} {B : Nat} {Z : State → Heap → Prop} {vF : Value} (uk : uK B Z vF) {x1 : Int32} {x2 : Int32} {s : uS} {r : (uS × Bool)}  (h : fn_X12_literalIn x1 x2 s = some r) : CU l D A B Z 2 mX12_literalIn s [.ref (B + 1079), .int x1, .int x2] (r.1, some (.int (bI r.2))) := by
  unfold fn_X12_literalIn at h
  refine cu_of rfl uk.1.1 (Nat.le_of_ble_eq_true rfl) ?_
  show GU _ _ _ _ _ _ _ _ _ 0 [(0, .ref (B + 1079)), (1, .int x1), (2, .int x2)] []
  refine uu_aload_n dX12_literalIn_0 rfl (List.mem_of_getElem? (i := 0) rfl) ?_
  refine uu_iload_n dX12_literalIn_1 rfl (List.mem_of_getElem? (i := 1) rfl) ?_
  refine uu_iload_n dX12_literalIn_2 rfl (List.mem_of_getElem? (i := 2) rfl) ?_
  obtain ⟨s1, e2, h⟩ := uu_ob h
  refine uu_cv (d1 := 0) (k := 1079) (ci := 12) (T := TX12) (N := 153) (As := [.int x1, .int x2]) (st := []) (st' := []) (xc_X12_partByte uk  e2) so_1079.is (by decide) rfl kX12_partByte lX12_1287 sX12_partByte (by decide) (Nat.le_of_ble_eq_true rfl) dX12_literalIn_3 rfl ?_
  refine uu_aload_n dX12_literalIn_6 rfl (List.mem_of_getElem? (i := 0) rfl) ?_
  refine uu_iload_n dX12_literalIn_7 rfl (List.mem_of_getElem? (i := 1) rfl) ?_
  obtain ⟨v3, e4, h⟩ := uu_ob h
  refine uu_cv (d1 := 0) (k := 1079) (ci := 12) (T := TX12) (N := 153) (As := [.int x1]) (st := []) (st' := [.int v3]) (xc_X12_sizeOfPart uk  e4) so_1079.is (by decide) rfl kX12_sizeOfPart lX12_1284 sX12_sizeOfPart (by decide) (Nat.le_of_ble_eq_true rfl) dX12_literalIn_8 rfl ?_
  refine uu_aload_n dX12_literalIn_11 rfl (List.mem_of_getElem? (i := 0) rfl) ?_
  refine uu_geta (ci := 12) (N := 153) fX12_1270 (by decide) so_1079.is (by decide) (c := 1161) (by decide) dX12_literalIn_12 ?_
  refine uu_iload_n dX12_literalIn_15 rfl (List.mem_of_getElem? (i := 1) rfl) ?_
  obtain ⟨v5, e6, h⟩ := uu_ob h
  refine uu_iald e6 dX12_literalIn_16 ?_
  refine uu_icmp_ne (tgt := 28) dX12_literalIn_17 (by decide) (fun c7 => ?_) (fun c7 => ?_)
  · replace h := uu_neg c7 h
    refine uu_iconst (v := 1) dX12_literalIn_28 (by decide) ?_
    have hr := Option.some.inj h
    subst hr
    exact uu_zret (x := bI true) rfl (bI_z _) dX12_literalIn_29
  · replace h := uu_pos c7 h
    refine uu_aload_n dX12_literalIn_20 rfl (List.mem_of_getElem? (i := 0) rfl) ?_
    refine uu_iload_n dX12_literalIn_21 rfl (List.mem_of_getElem? (i := 1) rfl) ?_
    obtain ⟨r8, e9, h⟩ := uu_ob h
    refine uu_cv (d1 := 1) (k := 1079) (ci := 12) (T := TX12) (N := 153) (As := [.int x1]) (st := []) (st' := [.int (bI r8.2)]) (xc_X12_partDone uk  e9) so_1079.is (by decide) rfl kX12_partDone lX12_1281 sX12_partDone (by decide) (Nat.le_of_ble_eq_true rfl) dX12_literalIn_22 rfl ?_
    refine uu_goto (tgt := 29) dX12_literalIn_25 (by decide) ?_
    have hr := Option.some.inj h
    subst hr
    exact uu_zret (x := bI r8.2) rfl (bI_z _) dX12_literalIn_29
abbrev mX12_no : hM := (yX12_no, cX12_no, 3, none)
theorem dX12_no_0 : decode cX12_no 0 = .ok (.aload_n 0, 1) := by decide +kernel
theorem dX12_no_1 : decode cX12_no 1 = .ok (.iload_n 1, 1) := by decide +kernel
theorem dX12_no_2 : decode cX12_no 2 = .ok (.ldc_w 1315, 3) := by decide +kernel
theorem dX12_no_5 : decode cX12_no 5 = .ok (.invokevirtual 68, 3) := by decide +kernel
theorem dX12_no_8 : decode cX12_no 8 = .ok (.aload_n 0, 1) := by decide +kernel
theorem dX12_no_9 : decode cX12_no 9 = .ok (.iload_n 1, 1) := by decide +kernel
theorem dX12_no_10 : decode cX12_no 10 = .ok (.aload_n 2, 1) := by decide +kernel
theorem dX12_no_11 : decode cX12_no 11 = .ok (.invokevirtual 68, 3) := by decide +kernel
theorem dX12_no_14 : decode cX12_no 14 = .ok (.aload_n 0, 1) := by decide +kernel
theorem dX12_no_15 : decode cX12_no 15 = .ok (.iload_n 1, 1) := by decide +kernel
theorem dX12_no_16 : decode cX12_no 16 = .ok (.ldc_w 1317, 3) := by decide +kernel
theorem dX12_no_19 : decode cX12_no 19 = .ok (.invokevirtual 974, 3) := by decide +kernel
theorem dX12_no_22 : decode cX12_no 22 = .ok (.return_, 1) := by decide +kernel
def fn_X12_no (x1 : Int32) (w2 : List Nat) (s : uS) : Option uS := (fn_X12_tell x1 kW_202 s).bind fun s2 => (fn_X12_tell x1 w2 s2).bind fun s4 => (fn_X12_line x1 kW_203 s4).bind fun s7 => some s7
set_option maxRecDepth 100000 in
set_option maxHeartbeats 4000000 in
theorem xc_X12_no {l : Launch} {D : va_G} {A : Nat → ClassId} {B : Nat} {Z : State → Heap → Prop} {vF : Value} (uk : uK B Z vF) {x1 : Int32} {w2 : List Nat} {s : uS} {r : uS} {qw2 pw2 : Nat} (hw2 : uStr B Z qw2 pw2 w2) (h : fn_X12_no x1 w2 s = some r) : CU l D A B Z 6 mX12_no s [.ref (B + 1079), .int x1, .ref qw2] (r, none) := by
  unfold fn_X12_no at h
  refine cu_of rfl uk.1.1 (Nat.le_of_ble_eq_true rfl) ?_
  show GU _ _ _ _ _ _ _ _ _ 0 [(0, .ref (B + 1079)), (1, .int x1), (2, .ref qw2)] []
  refine uu_aload_n dX12_no_0 rfl (List.mem_of_getElem? (i := 0) rfl) ?_
  refine uu_iload_n dX12_no_1 rfl (List.mem_of_getElem? (i := 1) rfl) ?_
  obtain ⟨cq1, cp1, cv1, cw1⟩ := uk.2.1 202 _ rfl
  refine uu_ldcwS cv1 dX12_no_2 ?_
  obtain ⟨s2, e3, h⟩ := uu_ob h
  refine uu_cv (d1 := 4) (k := 1079) (ci := 12) (T := TX12) (N := 153) (As := [.int x1, .ref cq1]) (st := []) (st' := []) (xc_X12_tell uk cw1 e3) so_1079.is (by decide) rfl kX12_tell lX12_68 sX12_tell (by decide) (Nat.le_of_ble_eq_true rfl) dX12_no_5 rfl ?_
  refine uu_aload_n dX12_no_8 rfl (List.mem_of_getElem? (i := 0) rfl) ?_
  refine uu_iload_n dX12_no_9 rfl (List.mem_of_getElem? (i := 1) rfl) ?_
  refine uu_aload_n dX12_no_10 rfl (List.mem_of_getElem? (i := 2) rfl) ?_
  obtain ⟨s4, e5, h⟩ := uu_ob h
  refine uu_cv (d1 := 4) (k := 1079) (ci := 12) (T := TX12) (N := 153) (As := [.int x1, .ref qw2]) (st := []) (st' := []) (xc_X12_tell uk hw2 e5) so_1079.is (by decide) rfl kX12_tell lX12_68 sX12_tell (by decide) (Nat.le_of_ble_eq_true rfl) dX12_no_11 rfl ?_
  refine uu_aload_n dX12_no_14 rfl (List.mem_of_getElem? (i := 0) rfl) ?_
  refine uu_iload_n dX12_no_15 rfl (List.mem_of_getElem? (i := 1) rfl) ?_
  obtain ⟨cq6, cp6, cv6, cw6⟩ := uk.2.1 203 _ rfl
  refine uu_ldcwS cv6 dX12_no_16 ?_
  obtain ⟨s7, e8, h⟩ := uu_ob h
  refine uu_cv (d1 := 5) (k := 1079) (ci := 12) (T := TX12) (N := 153) (As := [.int x1, .ref cq6]) (st := []) (st' := []) (xc_X12_line uk cw6 e8) so_1079.is (by decide) rfl kX12_line lX12_974 sX12_line (by decide) (Nat.le_of_ble_eq_true rfl) dX12_no_19 rfl ?_
  have hr := Option.some.inj h
  subst hr
  exact uu_vret rfl dX12_no_22
abbrev mX12_isName : hM := (yX12_isName, cX12_isName, 6, (some (.boolean)))
theorem dX12_isName_31 : decode cX12_isName 31 = .ok (.iload 5, 2) := by decide +kernel
theorem dX12_isName_33 : decode cX12_isName 33 = .ok (.iload_n 3, 1) := by decide +kernel
theorem dX12_isName_34 : decode cX12_isName 34 = .ok (.if_icmp .ge 47, 3) := by decide +kernel
theorem dX12_isName_81 : decode cX12_isName 81 = .ok (.iload 4, 2) := by decide +kernel
theorem dX12_isName_83 : decode cX12_isName 83 = .ok (.ireturn, 1) := by decide +kernel
theorem dX12_isName_37 : decode cX12_isName 37 = .ok (.iload 4, 2) := by decide +kernel
theorem dX12_isName_39 : decode cX12_isName 39 = .ok (.ifCond .eq 42, 3) := by decide +kernel
theorem dX12_isName_42 : decode cX12_isName 42 = .ok (.aload_n 0, 1) := by decide +kernel
theorem dX12_isName_43 : decode cX12_isName 43 = .ok (.iload_n 1, 1) := by decide +kernel
theorem dX12_isName_44 : decode cX12_isName 44 = .ok (.iload_n 2, 1) := by decide +kernel
theorem dX12_isName_45 : decode cX12_isName 45 = .ok (.iload 5, 2) := by decide +kernel
theorem dX12_isName_47 : decode cX12_isName 47 = .ok (.invokevirtual 1195, 3) := by decide +kernel
theorem dX12_isName_50 : decode cX12_isName 50 = .ok (.bipush 32, 2) := by decide +kernel
theorem dX12_isName_52 : decode cX12_isName 52 = .ok (.if_icmp .lt 20, 3) := by decide +kernel
theorem dX12_isName_72 : decode cX12_isName 72 = .ok (.iconst 0, 1) := by decide +kernel
theorem dX12_isName_73 : decode cX12_isName 73 = .ok (.istore 4, 2) := by decide +kernel
theorem dX12_isName_75 : decode cX12_isName 75 = .ok (.iinc 5 1, 3) := by decide +kernel
theorem dX12_isName_78 : decode cX12_isName 78 = .ok (.goto (-47), 3) := by decide +kernel
theorem dX12_isName_55 : decode cX12_isName 55 = .ok (.aload_n 0, 1) := by decide +kernel
theorem dX12_isName_56 : decode cX12_isName 56 = .ok (.iload_n 1, 1) := by decide +kernel
theorem dX12_isName_57 : decode cX12_isName 57 = .ok (.iload_n 2, 1) := by decide +kernel
theorem dX12_isName_58 : decode cX12_isName 58 = .ok (.iload 5, 2) := by decide +kernel
theorem dX12_isName_60 : decode cX12_isName 60 = .ok (.invokevirtual 1195, 3) := by decide +kernel
theorem dX12_isName_63 : decode cX12_isName 63 = .ok (.bipush 127, 2) := by decide +kernel
theorem dX12_isName_65 : decode cX12_isName 65 = .ok (.if_icmp .ge 7, 3) := by decide +kernel
theorem dX12_isName_68 : decode cX12_isName 68 = .ok (.iconst 1, 1) := by decide +kernel
theorem dX12_isName_69 : decode cX12_isName 69 = .ok (.goto 4, 3) := by decide +kernel
theorem dX12_isName_0 : decode cX12_isName 0 = .ok (.aload_n 0, 1) := by decide +kernel
theorem dX12_isName_1 : decode cX12_isName 1 = .ok (.getfield 1189, 3) := by decide +kernel
theorem dX12_isName_4 : decode cX12_isName 4 = .ok (.iconst 2, 1) := by decide +kernel
theorem dX12_isName_5 : decode cX12_isName 5 = .ok (.iload_n 1, 1) := by decide +kernel
theorem dX12_isName_6 : decode cX12_isName 6 = .ok (.imul, 1) := by decide +kernel
theorem dX12_isName_7 : decode cX12_isName 7 = .ok (.iload_n 2, 1) := by decide +kernel
theorem dX12_isName_8 : decode cX12_isName 8 = .ok (.iadd, 1) := by decide +kernel
theorem dX12_isName_9 : decode cX12_isName 9 = .ok (.iaload, 1) := by decide +kernel
theorem dX12_isName_10 : decode cX12_isName 10 = .ok (.istore_n 3, 1) := by decide +kernel
theorem dX12_isName_11 : decode cX12_isName 11 = .ok (.iload_n 3, 1) := by decide +kernel
theorem dX12_isName_12 : decode cX12_isName 12 = .ok (.ifCond .le 13, 3) := by decide +kernel
theorem dX12_isName_25 : decode cX12_isName 25 = .ok (.iconst 0, 1) := by decide +kernel
theorem dX12_isName_26 : decode cX12_isName 26 = .ok (.istore 4, 2) := by decide +kernel
theorem dX12_isName_28 : decode cX12_isName 28 = .ok (.iconst 0, 1) := by decide +kernel
theorem dX12_isName_29 : decode cX12_isName 29 = .ok (.istore 5, 2) := by decide +kernel
theorem dX12_isName_15 : decode cX12_isName 15 = .ok (.iload_n 3, 1) := by decide +kernel
theorem dX12_isName_16 : decode cX12_isName 16 = .ok (.bipush 20, 2) := by decide +kernel
theorem dX12_isName_18 : decode cX12_isName 18 = .ok (.if_icmp .gt 7, 3) := by decide +kernel
theorem dX12_isName_21 : decode cX12_isName 21 = .ok (.iconst 1, 1) := by decide +kernel
theorem dX12_isName_22 : decode cX12_isName 22 = .ok (.goto 4, 3) := by decide +kernel
def fb_X12_isName_31 (K31 : Int32 → Int32 → Int32 → Bool → Int32 → uS → Option Bool) (x1 : Int32) (x2 : Int32) (x3 : Int32) (b4 : Bool) (x5 : Int32) (s : uS) : Option Bool := if x3 ≤ x5 then (some b4) else (if b4 = true then ((fn_X12_partText x1 x2 x5 s).bind fun v3 => if v3 < 32 then (K31 x1 x2 x3 false (x5 + 1) s) else ((fn_X12_partText x1 x2 x5 s).bind fun v6 => if (127 : Int32) ≤ v6 then (K31 x1 x2 x3 false (x5 + 1) s) else (K31 x1 x2 x3 true (x5 + 1) s))) else (some b4))
set_option maxRecDepth 100000 in
set_option maxHeartbeats 4000000 in
theorem xb_X12_isName_31 {l : Launch} {D : va_G} {A : Nat → ClassId} {B : Nat} {Z : State → Heap → Prop} {vF : Value} (uk : uK B Z vF) {K31 : Int32 → Int32 → Int32 → Bool → Int32 → uS → Option Bool} (hK31 : ∀ (x1 : Int32) (x2 : Int32) (x3 : Int32) (b4 : Bool) (x5 : Int32)  (s : uS) (r : Bool), K31 x1 x2 x3 b4 x5 s = some r → GU l D A B Z mX12_isName 1 (s, some (.int (bI r))) s 31 [(0, .ref (B + 1079)), (1, .int x1), (2, .int x2), (3, .int x3), (4, .int (bI b4)), (5, .int x5)] []) {x1 : Int32} {x2 : Int32} {x3 : Int32} {b4 : Bool} {x5 : Int32} {s : uS} {r : Bool}  (h : fb_X12_isName_31 K31 x1 x2 x3 b4 x5 s = some r) : GU l D A B Z mX12_isName 1 (s, some (.int (bI r))) s 31 [(0, .ref (B + 1079)), (1, .int x1), (2, .int x2), (3, .int x3), (4, .int (bI b4)), (5, .int x5)] [] := by
  unfold fb_X12_isName_31 at h
  refine uu_iload dX12_isName_31 (List.mem_of_getElem? (i := 5) rfl) ?_
  refine uu_iload_n dX12_isName_33 rfl (List.mem_of_getElem? (i := 3) rfl) ?_
  refine uu_icmp_ge (tgt := 81) dX12_isName_34 (by decide) (fun c1 => ?_) (fun c1 => ?_)
  · replace h := uu_pos c1 h
    refine uu_iload dX12_isName_81 (List.mem_of_getElem? (i := 4) rfl) ?_
    have hr := Option.some.inj h
    subst hr
    exact uu_zret (x := bI b4) rfl (bI_z _) dX12_isName_83
  · replace h := uu_neg c1 h
    refine uu_iload dX12_isName_37 (List.mem_of_getElem? (i := 4) rfl) ?_
    refine uu_ifb_eq (tgt := 81) dX12_isName_39 (by decide) (fun c2 => ?_) (fun c2 => ?_)
    · replace h := uu_neg c2 h
      refine uu_iload dX12_isName_81 (List.mem_of_getElem? (i := 4) rfl) ?_
      have hr := Option.some.inj h
      subst hr
      exact uu_zret (x := bI b4) rfl (bI_z _) dX12_isName_83
    · replace h := uu_pos c2 h
      refine uu_aload_n dX12_isName_42 rfl (List.mem_of_getElem? (i := 0) rfl) ?_
      refine uu_iload_n dX12_isName_43 rfl (List.mem_of_getElem? (i := 1) rfl) ?_
      refine uu_iload_n dX12_isName_44 rfl (List.mem_of_getElem? (i := 2) rfl) ?_
      refine uu_iload dX12_isName_45 (List.mem_of_getElem? (i := 5) rfl) ?_
      obtain ⟨v3, e4, h⟩ := uu_ob h
      refine uu_cv (d1 := 0) (k := 1079) (ci := 12) (T := TX12) (N := 153) (As := [.int x1, .int x2, .int x5]) (st := []) (st' := [.int v3]) (xc_X12_partText uk  e4) so_1079.is (by decide) rfl kX12_partText lX12_1195 sX12_partText (by decide) (Nat.le_of_ble_eq_true rfl) dX12_isName_47 rfl ?_
      refine uu_bipush (v := 32) dX12_isName_50 (by decide) ?_
      refine uu_icmp_lt (tgt := 72) dX12_isName_52 (by decide) (fun c5 => ?_) (fun c5 => ?_)
      · replace h := uu_pos c5 h
        refine uu_iconst (v := 0) dX12_isName_72 (by decide) ?_
        refine uu_istore dX12_isName_73 (by decide) rfl ?_
        refine uu_iinc (v := x5 + 1) dX12_isName_75 (k := 5) rfl rfl (by decide) rfl ?_
        refine uu_goto (tgt := 31) dX12_isName_78 (by decide) ?_
        refine uu_lv [2, 3, 4, 5, 1, 0] (lv' := [(0, .ref (B + 1079)), (1, .int x1), (2, .int x2), (3, .int x3), (4, .int 0), (5, .int (x5 + 1))]) rfl ?_
        exact hK31 x1 x2 x3 false (x5 + 1) _ _ h
      · replace h := uu_neg c5 h
        refine uu_aload_n dX12_isName_55 rfl (List.mem_of_getElem? (i := 0) rfl) ?_
        refine uu_iload_n dX12_isName_56 rfl (List.mem_of_getElem? (i := 1) rfl) ?_
        refine uu_iload_n dX12_isName_57 rfl (List.mem_of_getElem? (i := 2) rfl) ?_
        refine uu_iload dX12_isName_58 (List.mem_of_getElem? (i := 5) rfl) ?_
        obtain ⟨v6, e7, h⟩ := uu_ob h
        refine uu_cv (d1 := 0) (k := 1079) (ci := 12) (T := TX12) (N := 153) (As := [.int x1, .int x2, .int x5]) (st := []) (st' := [.int v6]) (xc_X12_partText uk  e7) so_1079.is (by decide) rfl kX12_partText lX12_1195 sX12_partText (by decide) (Nat.le_of_ble_eq_true rfl) dX12_isName_60 rfl ?_
        refine uu_bipush (v := 127) dX12_isName_63 (by decide) ?_
        refine uu_icmp_ge (tgt := 72) dX12_isName_65 (by decide) (fun c8 => ?_) (fun c8 => ?_)
        · replace h := uu_pos c8 h
          refine uu_iconst (v := 0) dX12_isName_72 (by decide) ?_
          refine uu_istore dX12_isName_73 (by decide) rfl ?_
          refine uu_iinc (v := x5 + 1) dX12_isName_75 (k := 5) rfl rfl (by decide) rfl ?_
          refine uu_goto (tgt := 31) dX12_isName_78 (by decide) ?_
          refine uu_lv [2, 3, 4, 5, 1, 0] (lv' := [(0, .ref (B + 1079)), (1, .int x1), (2, .int x2), (3, .int x3), (4, .int 0), (5, .int (x5 + 1))]) rfl ?_
          exact hK31 x1 x2 x3 false (x5 + 1) _ _ h
        · replace h := uu_neg c8 h
          refine uu_iconst (v := 1) dX12_isName_68 (by decide) ?_
          refine uu_goto (tgt := 73) dX12_isName_69 (by decide) ?_
          refine uu_istore dX12_isName_73 (by decide) rfl ?_
          refine uu_iinc (v := x5 + 1) dX12_isName_75 (k := 5) rfl rfl (by decide) rfl ?_
          refine uu_goto (tgt := 31) dX12_isName_78 (by decide) ?_
          refine uu_lv [2, 3, 4, 5, 1, 0] (lv' := [(0, .ref (B + 1079)), (1, .int x1), (2, .int x2), (3, .int x3), (4, .int 1), (5, .int (x5 + 1))]) rfl ?_
          exact hK31 x1 x2 x3 true (x5 + 1) _ _ h
def fn_X12_isName_31  : Nat → Int32 → Int32 → Int32 → Bool → Int32 → uS → Option Bool
  | 0 => fun _ _ _ _ _ _ => none
  | n + 1 => fb_X12_isName_31 (fn_X12_isName_31  n)
set_option maxRecDepth 100000 in
set_option maxHeartbeats 4000000 in
theorem xn_X12_isName_31 {l : Launch} {D : va_G} {A : Nat → ClassId} {B : Nat} {Z : State → Heap → Prop} {vF : Value} (uk : uK B Z vF)   : ∀ (n : Nat) (x1 : Int32) (x2 : Int32) (x3 : Int32) (b4 : Bool) (x5 : Int32)  (s : uS) (r : Bool), fn_X12_isName_31  n x1 x2 x3 b4 x5 s = some r → GU l D A B Z mX12_isName 1 (s, some (.int (bI r))) s 31 [(0, .ref (B + 1079)), (1, .int x1), (2, .int x2), (3, .int x3), (4, .int (bI b4)), (5, .int x5)] [] := by
  intro n
  induction n with
  | zero => intro x1 x2 x3 b4 x5 s r h
            cases h
  | succ n ih => intro x1 x2 x3 b4 x5 s r h
                 exact xb_X12_isName_31 uk ih  h
def fn_X12_isName (x1 : Int32) (x2 : Int32) (s : uS) : Option Bool := (iget 20 s 1164 (((2 : Int32) * x1) + x2)).bind fun v1 => if v1 ≤ 0 then (fn_X12_isName_31 uFu x1 x2 v1 false 0 s) else (if (20 : Int32) < v1 then (fn_X12_isName_31 uFu x1 x2 v1 false 0 s) else (fn_X12_isName_31 uFu x1 x2 v1 true 0 s))
set_option maxRecDepth 100000 in
set_option maxHeartbeats 4000000 in
theorem xc_X12_isName {l : Launch} {D : va_G} {A : Nat → ClassId} {B : Nat} {Z : State → Heap → Prop} {vF : Value} (uk : uK B Z vF) {x1 : Int32} {x2 : Int32} {s : uS} {r : Bool}  (h : fn_X12_isName x1 x2 s = some r) : CU l D A B Z 1 mX12_isName s [.ref (B + 1079), .int x1, .int x2] (s, some (.int (bI r))) := by
  unfold fn_X12_isName at h
  refine cu_of rfl uk.1.1 (Nat.le_of_ble_eq_true rfl) ?_
  show GU _ _ _ _ _ _ _ _ _ 0 [(0, .ref (B + 1079)), (1, .int x1), (2, .int x2)] []
  refine uu_aload_n dX12_isName_0 rfl (List.mem_of_getElem? (i := 0) rfl) ?_
  refine uu_geta (ci := 12) (N := 153) fX12_1189 (by decide) so_1079.is (by decide) (c := 1164) (by decide) dX12_isName_1 ?_
  refine uu_iconst (v := 2) dX12_isName_4 (by decide) ?_
  refine uu_iload_n dX12_isName_5 rfl (List.mem_of_getElem? (i := 1) rfl) ?_
  refine uu_imul dX12_isName_6 ?_
  refine uu_iload_n dX12_isName_7 rfl (List.mem_of_getElem? (i := 2) rfl) ?_
  refine uu_iadd dX12_isName_8 ?_
  obtain ⟨v1, e2, h⟩ := uu_ob h
  refine uu_iald e2 dX12_isName_9 ?_
  refine uu_istore_n dX12_isName_10 rfl (by decide) rfl ?_
  refine uu_iload_n dX12_isName_11 rfl (List.mem_of_getElem? (i := 0) rfl) ?_
  refine uu_if_le (tgt := 25) dX12_isName_12 (by decide) (fun c3 => ?_) (fun c3 => ?_)
  · replace h := uu_pos c3 h
    refine uu_iconst (v := 0) dX12_isName_25 (by decide) ?_
    refine uu_istore dX12_isName_26 (by decide) rfl ?_
    refine uu_iconst (v := 0) dX12_isName_28 (by decide) ?_
    refine uu_istore dX12_isName_29 (by decide) rfl ?_
    refine uu_lv [3, 4, 5, 2, 1, 0] (lv' := [(0, .ref (B + 1079)), (1, .int x1), (2, .int x2), (3, .int v1), (4, .int 0), (5, .int 0)]) rfl ?_
    exact xn_X12_isName_31 uk  _ _ _ _ _ _ _ _ h
  · replace h := uu_neg c3 h
    refine uu_iload_n dX12_isName_15 rfl (List.mem_of_getElem? (i := 0) rfl) ?_
    refine uu_bipush (v := 20) dX12_isName_16 (by decide) ?_
    refine uu_icmp_gt (tgt := 25) dX12_isName_18 (by decide) (fun c4 => ?_) (fun c4 => ?_)
    · replace h := uu_pos c4 h
      refine uu_iconst (v := 0) dX12_isName_25 (by decide) ?_
      refine uu_istore dX12_isName_26 (by decide) rfl ?_
      refine uu_iconst (v := 0) dX12_isName_28 (by decide) ?_
      refine uu_istore dX12_isName_29 (by decide) rfl ?_
      refine uu_lv [3, 4, 5, 2, 1, 0] (lv' := [(0, .ref (B + 1079)), (1, .int x1), (2, .int x2), (3, .int v1), (4, .int 0), (5, .int 0)]) rfl ?_
      exact xn_X12_isName_31 uk  _ _ _ _ _ _ _ _ h
    · replace h := uu_neg c4 h
      refine uu_iconst (v := 1) dX12_isName_21 (by decide) ?_
      refine uu_goto (tgt := 26) dX12_isName_22 (by decide) ?_
      refine uu_istore dX12_isName_26 (by decide) rfl ?_
      refine uu_iconst (v := 0) dX12_isName_28 (by decide) ?_
      refine uu_istore dX12_isName_29 (by decide) rfl ?_
      refine uu_lv [3, 4, 5, 2, 1, 0] (lv' := [(0, .ref (B + 1079)), (1, .int x1), (2, .int x2), (3, .int v1), (4, .int 1), (5, .int 0)]) rfl ?_
      exact xn_X12_isName_31 uk  _ _ _ _ _ _ _ _ h
abbrev mX12_source : hM := (yX12_source, cX12_source, 4, none)
theorem dX12_source_16 : decode cX12_source 16 = .ok (.iload_n 3, 1) := by decide +kernel
theorem dX12_source_17 : decode cX12_source 17 = .ok (.aload_n 0, 1) := by decide +kernel
theorem dX12_source_18 : decode cX12_source 18 = .ok (.getfield 184, 3) := by decide +kernel
theorem dX12_source_21 : decode cX12_source 21 = .ok (.if_icmp .ge 22, 3) := by decide +kernel
theorem dX12_source_43 : decode cX12_source 43 = .ok (.return_, 1) := by decide +kernel
theorem dX12_source_24 : decode cX12_source 24 = .ok (.aload_n 0, 1) := by decide +kernel
theorem dX12_source_25 : decode cX12_source 25 = .ok (.getfield 187, 3) := by decide +kernel
theorem dX12_source_28 : decode cX12_source 28 = .ok (.iload_n 3, 1) := by decide +kernel
theorem dX12_source_29 : decode cX12_source 29 = .ok (.aload_n 0, 1) := by decide +kernel
theorem dX12_source_30 : decode cX12_source 30 = .ok (.iload_n 1, 1) := by decide +kernel
theorem dX12_source_31 : decode cX12_source 31 = .ok (.iload_n 2, 1) := by decide +kernel
theorem dX12_source_32 : decode cX12_source 32 = .ok (.iload_n 3, 1) := by decide +kernel
theorem dX12_source_33 : decode cX12_source 33 = .ok (.invokevirtual 1195, 3) := by decide +kernel
theorem dX12_source_36 : decode cX12_source 36 = .ok (.iastore, 1) := by decide +kernel
theorem dX12_source_37 : decode cX12_source 37 = .ok (.iinc 3 1, 3) := by decide +kernel
theorem dX12_source_40 : decode cX12_source 40 = .ok (.goto (-24), 3) := by decide +kernel
theorem dX12_source_0 : decode cX12_source 0 = .ok (.aload_n 0, 1) := by decide +kernel
theorem dX12_source_1 : decode cX12_source 1 = .ok (.aload_n 0, 1) := by decide +kernel
theorem dX12_source_2 : decode cX12_source 2 = .ok (.getfield 1189, 3) := by decide +kernel
theorem dX12_source_5 : decode cX12_source 5 = .ok (.iconst 2, 1) := by decide +kernel
theorem dX12_source_6 : decode cX12_source 6 = .ok (.iload_n 1, 1) := by decide +kernel
theorem dX12_source_7 : decode cX12_source 7 = .ok (.imul, 1) := by decide +kernel
theorem dX12_source_8 : decode cX12_source 8 = .ok (.iload_n 2, 1) := by decide +kernel
theorem dX12_source_9 : decode cX12_source 9 = .ok (.iadd, 1) := by decide +kernel
theorem dX12_source_10 : decode cX12_source 10 = .ok (.iaload, 1) := by decide +kernel
theorem dX12_source_11 : decode cX12_source 11 = .ok (.putfield 184, 3) := by decide +kernel
theorem dX12_source_14 : decode cX12_source 14 = .ok (.iconst 0, 1) := by decide +kernel
theorem dX12_source_15 : decode cX12_source 15 = .ok (.istore_n 3, 1) := by decide +kernel
def fb_X12_source_16 (K16 : Int32 → Int32 → Int32 → uS → Option uS) (x1 : Int32) (x2 : Int32) (x3 : Int32) (s : uS) : Option uS := if (s.I 1079 29) ≤ x3 then (some s) else ((fn_X12_partText x1 x2 x3 s).bind fun v2 => (iput 20 s 1096 x3 v2).bind fun s4 => K16 x1 x2 (x3 + 1) s4)
set_option maxRecDepth 100000 in
set_option maxHeartbeats 4000000 in
theorem xb_X12_source_16 {l : Launch} {D : va_G} {A : Nat → ClassId} {B : Nat} {Z : State → Heap → Prop} {vF : Value} (uk : uK B Z vF) {K16 : Int32 → Int32 → Int32 → uS → Option uS} (hK16 : ∀ (x1 : Int32) (x2 : Int32) (x3 : Int32)  (s : uS) (r : uS), K16 x1 x2 x3 s = some r → GU l D A B Z mX12_source 1 (r, none) s 16 [(0, .ref (B + 1079)), (1, .int x1), (2, .int x2), (3, .int x3)] []) {x1 : Int32} {x2 : Int32} {x3 : Int32} {s : uS} {r : uS}  (h : fb_X12_source_16 K16 x1 x2 x3 s = some r) : GU l D A B Z mX12_source 1 (r, none) s 16 [(0, .ref (B + 1079)), (1, .int x1), (2, .int x2), (3, .int x3)] [] := by
  unfold fb_X12_source_16 at h
  refine uu_iload_n dX12_source_16 rfl (List.mem_of_getElem? (i := 3) rfl) ?_
  refine uu_aload_n dX12_source_17 rfl (List.mem_of_getElem? (i := 0) rfl) ?_
  refine uu_geti (ci := 12) (N := 153) fX12_184 (by decide) so_1079.is (by decide) (by decide) dX12_source_18 ?_
  refine uu_icmp_ge (tgt := 43) dX12_source_21 (by decide) (fun c1 => ?_) (fun c1 => ?_)
  · replace h := uu_pos c1 h
    have hr := Option.some.inj h
    subst hr
    exact uu_vret rfl dX12_source_43
  · replace h := uu_neg c1 h
    refine uu_aload_n dX12_source_24 rfl (List.mem_of_getElem? (i := 0) rfl) ?_
    refine uu_geta (ci := 12) (N := 153) fX12_187 (by decide) so_1079.is (by decide) (c := 1096) (by decide) dX12_source_25 ?_
    refine uu_iload_n dX12_source_28 rfl (List.mem_of_getElem? (i := 3) rfl) ?_
    refine uu_aload_n dX12_source_29 rfl (List.mem_of_getElem? (i := 0) rfl) ?_
    refine uu_iload_n dX12_source_30 rfl (List.mem_of_getElem? (i := 1) rfl) ?_
    refine uu_iload_n dX12_source_31 rfl (List.mem_of_getElem? (i := 2) rfl) ?_
    refine uu_iload_n dX12_source_32 rfl (List.mem_of_getElem? (i := 3) rfl) ?_
    obtain ⟨v2, e3, h⟩ := uu_ob h
    refine uu_cv (d1 := 0) (k := 1079) (ci := 12) (T := TX12) (N := 153) (As := [.int x1, .int x2, .int x3]) (st := [.int x3, .ref (B + 1096)]) (st' := [.int v2, .int x3, .ref (B + 1096)]) (xc_X12_partText uk  e3) so_1079.is (by decide) rfl kX12_partText lX12_1195 sX12_partText (by decide) (Nat.le_of_ble_eq_true rfl) dX12_source_33 rfl ?_
    obtain ⟨s4, e5, h⟩ := uu_ob h
    refine uu_iast e5 dX12_source_36 ?_
    refine uu_iinc (v := x3 + 1) dX12_source_37 (k := 3) rfl rfl (by decide) rfl ?_
    refine uu_goto (tgt := 16) dX12_source_40 (by decide) ?_
    refine uu_lv [1, 2, 3, 0] (lv' := [(0, .ref (B + 1079)), (1, .int x1), (2, .int x2), (3, .int (x3 + 1))]) rfl ?_
    exact hK16 x1 x2 (x3 + 1) _ _ h
def fn_X12_source_16  : Nat → Int32 → Int32 → Int32 → uS → Option uS
  | 0 => fun _ _ _ _ => none
  | n + 1 => fb_X12_source_16 (fn_X12_source_16  n)
set_option maxRecDepth 100000 in
set_option maxHeartbeats 4000000 in
theorem xn_X12_source_16 {l : Launch} {D : va_G} {A : Nat → ClassId} {B : Nat} {Z : State → Heap → Prop} {vF : Value} (uk : uK B Z vF)   : ∀ (n : Nat) (x1 : Int32) (x2 : Int32) (x3 : Int32)  (s : uS) (r : uS), fn_X12_source_16  n x1 x2 x3 s = some r → GU l D A B Z mX12_source 1 (r, none) s 16 [(0, .ref (B + 1079)), (1, .int x1), (2, .int x2), (3, .int x3)] [] := by
  intro n
  induction n with
  | zero => intro x1 x2 x3 s r h
            cases h
  | succ n ih => intro x1 x2 x3 s r h
                 exact xb_X12_source_16 uk ih  h
def fn_X12_source (x1 : Int32) (x2 : Int32) (s : uS) : Option uS := (iget 20 s 1164 (((2 : Int32) * x1) + x2)).bind fun v1 => fn_X12_source_16 uFu x1 x2 0 (wI s 1079 29 v1)
set_option maxRecDepth 100000 in
set_option maxHeartbeats 4000000 in
theorem xc_X12_source {l : Launch} {D : va_G} {A : Nat → ClassId} {B : Nat} {Z : State → Heap → Prop} {vF : Value} (uk : uK B Z vF) {x1 : Int32} {x2 : Int32} {s : uS} {r : uS}  (h : fn_X12_source x1 x2 s = some r) : CU l D A B Z 1 mX12_source s [.ref (B + 1079), .int x1, .int x2] (r, none) := by
  unfold fn_X12_source at h
  refine cu_of rfl uk.1.1 (Nat.le_of_ble_eq_true rfl) ?_
  show GU _ _ _ _ _ _ _ _ _ 0 [(0, .ref (B + 1079)), (1, .int x1), (2, .int x2)] []
  refine uu_aload_n dX12_source_0 rfl (List.mem_of_getElem? (i := 0) rfl) ?_
  refine uu_aload_n dX12_source_1 rfl (List.mem_of_getElem? (i := 0) rfl) ?_
  refine uu_geta (ci := 12) (N := 153) fX12_1189 (by decide) so_1079.is (by decide) (c := 1164) (by decide) dX12_source_2 ?_
  refine uu_iconst (v := 2) dX12_source_5 (by decide) ?_
  refine uu_iload_n dX12_source_6 rfl (List.mem_of_getElem? (i := 1) rfl) ?_
  refine uu_imul dX12_source_7 ?_
  refine uu_iload_n dX12_source_8 rfl (List.mem_of_getElem? (i := 2) rfl) ?_
  refine uu_iadd dX12_source_9 ?_
  obtain ⟨v1, e2, h⟩ := uu_ob h
  refine uu_iald e2 dX12_source_10 ?_
  refine uu_puti (ft := .int) (ci := 12) (N := 153) fX12_184 ptX12 (Or.inl rfl) (by decide) so_1079.is (by decide) (by decide) (by decide +kernel) rfl rfl dX12_source_11 ?_
  refine uu_iconst (v := 0) dX12_source_14 (by decide) ?_
  refine uu_istore_n dX12_source_15 rfl (by decide) rfl ?_
  refine uu_lv [1, 2, 3, 0] (lv' := [(0, .ref (B + 1079)), (1, .int x1), (2, .int x2), (3, .int 0)]) rfl ?_
  exact xn_X12_source_16 uk  _ _ _ _ _ _ h
abbrev mX12_sayNumber : hM := (yX12_sayNumber, cX12_sayNumber, 4, none)
theorem dX12_sayNumber_7 : decode cX12_sayNumber 7 = .ok (.iload_n 3, 1) := by decide +kernel
theorem dX12_sayNumber_8 : decode cX12_sayNumber 8 = .ok (.aload_n 0, 1) := by decide +kernel
theorem dX12_sayNumber_9 : decode cX12_sayNumber 9 = .ok (.getfield 110, 3) := by decide +kernel
theorem dX12_sayNumber_12 : decode cX12_sayNumber 12 = .ok (.if_icmp .ge 20, 3) := by decide +kernel
theorem dX12_sayNumber_32 : decode cX12_sayNumber 32 = .ok (.return_, 1) := by decide +kernel
theorem dX12_sayNumber_15 : decode cX12_sayNumber 15 = .ok (.aload_n 0, 1) := by decide +kernel
theorem dX12_sayNumber_16 : decode cX12_sayNumber 16 = .ok (.iload_n 1, 1) := by decide +kernel
theorem dX12_sayNumber_17 : decode cX12_sayNumber 17 = .ok (.aload_n 0, 1) := by decide +kernel
theorem dX12_sayNumber_18 : decode cX12_sayNumber 18 = .ok (.getfield 116, 3) := by decide +kernel
theorem dX12_sayNumber_21 : decode cX12_sayNumber 21 = .ok (.iload_n 3, 1) := by decide +kernel
theorem dX12_sayNumber_22 : decode cX12_sayNumber 22 = .ok (.iaload, 1) := by decide +kernel
theorem dX12_sayNumber_23 : decode cX12_sayNumber 23 = .ok (.invokevirtual 54, 3) := by decide +kernel
theorem dX12_sayNumber_26 : decode cX12_sayNumber 26 = .ok (.iinc 3 1, 3) := by decide +kernel
theorem dX12_sayNumber_29 : decode cX12_sayNumber 29 = .ok (.goto (-22), 3) := by decide +kernel
theorem dX12_sayNumber_0 : decode cX12_sayNumber 0 = .ok (.aload_n 0, 1) := by decide +kernel
theorem dX12_sayNumber_1 : decode cX12_sayNumber 1 = .ok (.iload_n 2, 1) := by decide +kernel
theorem dX12_sayNumber_2 : decode cX12_sayNumber 2 = .ok (.invokevirtual 652, 3) := by decide +kernel
theorem dX12_sayNumber_5 : decode cX12_sayNumber 5 = .ok (.iconst 0, 1) := by decide +kernel
theorem dX12_sayNumber_6 : decode cX12_sayNumber 6 = .ok (.istore_n 3, 1) := by decide +kernel
def fb_X12_sayNumber_7 (K7 : Int32 → Int32 → uS → Option uS) (x1 : Int32) (x3 : Int32) (s : uS) : Option uS := if (s.I 1079 21) ≤ x3 then (some s) else ((iget 20 s 1093 x3).bind fun v2 => (fn_X12_say x1 v2 s).bind fun s4 => K7 x1 (x3 + 1) s4)
set_option maxRecDepth 100000 in
set_option maxHeartbeats 4000000 in
theorem xb_X12_sayNumber_7 {l : Launch} {D : va_G} {A : Nat → ClassId} {B : Nat} {Z : State → Heap → Prop} {vF : Value} (uk : uK B Z vF) {K7 : Int32 → Int32 → uS → Option uS} (hK7 : ∀ (x1 : Int32) (x3 : Int32)  (s : uS) (r : uS), K7 x1 x3 s = some r → GU l D A B Z mX12_sayNumber 2 (r, none) s 7 [(0, .ref (B + 1079)), (1, .int x1), (3, .int x3)] []) {x1 : Int32} {x3 : Int32} {s : uS} {r : uS}  (h : fb_X12_sayNumber_7 K7 x1 x3 s = some r) : GU l D A B Z mX12_sayNumber 2 (r, none) s 7 [(0, .ref (B + 1079)), (1, .int x1), (3, .int x3)] [] := by
  unfold fb_X12_sayNumber_7 at h
  refine uu_iload_n dX12_sayNumber_7 rfl (List.mem_of_getElem? (i := 2) rfl) ?_
  refine uu_aload_n dX12_sayNumber_8 rfl (List.mem_of_getElem? (i := 0) rfl) ?_
  refine uu_geti (ci := 12) (N := 153) fX12_110 (by decide) so_1079.is (by decide) (by decide) dX12_sayNumber_9 ?_
  refine uu_icmp_ge (tgt := 32) dX12_sayNumber_12 (by decide) (fun c1 => ?_) (fun c1 => ?_)
  · replace h := uu_pos c1 h
    have hr := Option.some.inj h
    subst hr
    exact uu_vret rfl dX12_sayNumber_32
  · replace h := uu_neg c1 h
    refine uu_aload_n dX12_sayNumber_15 rfl (List.mem_of_getElem? (i := 0) rfl) ?_
    refine uu_iload_n dX12_sayNumber_16 rfl (List.mem_of_getElem? (i := 1) rfl) ?_
    refine uu_aload_n dX12_sayNumber_17 rfl (List.mem_of_getElem? (i := 0) rfl) ?_
    refine uu_geta (ci := 12) (N := 153) fX12_116 (by decide) so_1079.is (by decide) (c := 1093) (by decide) dX12_sayNumber_18 ?_
    refine uu_iload_n dX12_sayNumber_21 rfl (List.mem_of_getElem? (i := 2) rfl) ?_
    obtain ⟨v2, e3, h⟩ := uu_ob h
    refine uu_iald e3 dX12_sayNumber_22 ?_
    obtain ⟨s4, e5, h⟩ := uu_ob h
    refine uu_cv (d1 := 0) (k := 1079) (ci := 12) (T := TX12) (N := 153) (As := [.int x1, .int v2]) (st := []) (st' := []) (xc_X12_say uk  e5) so_1079.is (by decide) rfl kX12_say lX12_54 sX12_say (by decide) (Nat.le_of_ble_eq_true rfl) dX12_sayNumber_23 rfl ?_
    refine uu_iinc (v := x3 + 1) dX12_sayNumber_26 (k := 2) rfl rfl (by decide) rfl ?_
    refine uu_goto (tgt := 7) dX12_sayNumber_29 (by decide) ?_
    refine uu_lv [1, 2, 0] (lv' := [(0, .ref (B + 1079)), (1, .int x1), (3, .int (x3 + 1))]) rfl ?_
    exact hK7 x1 (x3 + 1) _ _ h
def fn_X12_sayNumber_7  : Nat → Int32 → Int32 → uS → Option uS
  | 0 => fun _ _ _ => none
  | n + 1 => fb_X12_sayNumber_7 (fn_X12_sayNumber_7  n)
set_option maxRecDepth 100000 in
set_option maxHeartbeats 4000000 in
theorem xn_X12_sayNumber_7 {l : Launch} {D : va_G} {A : Nat → ClassId} {B : Nat} {Z : State → Heap → Prop} {vF : Value} (uk : uK B Z vF)   : ∀ (n : Nat) (x1 : Int32) (x3 : Int32)  (s : uS) (r : uS), fn_X12_sayNumber_7  n x1 x3 s = some r → GU l D A B Z mX12_sayNumber 2 (r, none) s 7 [(0, .ref (B + 1079)), (1, .int x1), (3, .int x3)] [] := by
  intro n
  induction n with
  | zero => intro x1 x3 s r h
            cases h
  | succ n ih => intro x1 x3 s r h
                 exact xb_X12_sayNumber_7 uk ih  h
def fn_X12_sayNumber (x1 : Int32) (x2 : Int32) (s : uS) : Option uS := (fn_X12_oneNumber x2 s).bind fun s1 => fn_X12_sayNumber_7 uFu x1 0 s1
set_option maxRecDepth 100000 in
set_option maxHeartbeats 4000000 in
theorem xc_X12_sayNumber {l : Launch} {D : va_G} {A : Nat → ClassId} {B : Nat} {Z : State → Heap → Prop} {vF : Value} (uk : uK B Z vF) {x1 : Int32} {x2 : Int32} {s : uS} {r : uS}  (h : fn_X12_sayNumber x1 x2 s = some r) : CU l D A B Z 2 mX12_sayNumber s [.ref (B + 1079), .int x1, .int x2] (r, none) := by
  unfold fn_X12_sayNumber at h
  refine cu_of rfl uk.1.1 (Nat.le_of_ble_eq_true rfl) ?_
  show GU _ _ _ _ _ _ _ _ _ 0 [(0, .ref (B + 1079)), (1, .int x1), (2, .int x2)] []
  refine uu_aload_n dX12_sayNumber_0 rfl (List.mem_of_getElem? (i := 0) rfl) ?_
  refine uu_iload_n dX12_sayNumber_1 rfl (List.mem_of_getElem? (i := 2) rfl) ?_
  obtain ⟨s1, e2, h⟩ := uu_ob h
  refine uu_cv (d1 := 1) (k := 1079) (ci := 12) (T := TX12) (N := 153) (As := [.int x2]) (st := []) (st' := []) (xc_X12_oneNumber uk  e2) so_1079.is (by decide) rfl kX12_oneNumber lX12_652 sX12_oneNumber (by decide) (Nat.le_of_ble_eq_true rfl) dX12_sayNumber_2 rfl ?_
  refine uu_iconst (v := 0) dX12_sayNumber_5 (by decide) ?_
  refine uu_istore_n dX12_sayNumber_6 rfl (by decide) rfl ?_
  refine uu_lv [1, 2, 0] (lv' := [(0, .ref (B + 1079)), (1, .int x1), (3, .int 0)]) rfl ?_
  exact xn_X12_sayNumber_7 uk  _ _ _ _ _ h
abbrev mX12_setActive : hM := (yX12_setActive, cX12_setActive, 3, (some (.boolean)))
theorem dX12_setActive_79 : decode cX12_setActive 79 = .ok (.iastore, 1) := by decide +kernel
theorem dX12_setActive_80 : decode cX12_setActive 80 = .ok (.aload_n 0, 1) := by decide +kernel
theorem dX12_setActive_81 : decode cX12_setActive 81 = .ok (.iload_n 1, 1) := by decide +kernel
theorem dX12_setActive_82 : decode cX12_setActive 82 = .ok (.ldc_w 1334, 3) := by decide +kernel
theorem dX12_setActive_85 : decode cX12_setActive 85 = .ok (.invokevirtual 974, 3) := by decide +kernel
theorem dX12_setActive_88 : decode cX12_setActive 88 = .ok (.iconst 1, 1) := by decide +kernel
theorem dX12_setActive_89 : decode cX12_setActive 89 = .ok (.ireturn, 1) := by decide +kernel
theorem dX12_setActive_47 : decode cX12_setActive 47 = .ok (.aload_n 0, 1) := by decide +kernel
theorem dX12_setActive_48 : decode cX12_setActive 48 = .ok (.invokevirtual 993, 3) := by decide +kernel
theorem dX12_setActive_51 : decode cX12_setActive 51 = .ok (.ifCond .ne 5, 3) := by decide +kernel
theorem dX12_setActive_56 : decode cX12_setActive 56 = .ok (.aload_n 0, 1) := by decide +kernel
theorem dX12_setActive_57 : decode cX12_setActive 57 = .ok (.getfield 926, 3) := by decide +kernel
theorem dX12_setActive_60 : decode cX12_setActive 60 = .ok (.iload_n 1, 1) := by decide +kernel
theorem dX12_setActive_61 : decode cX12_setActive 61 = .ok (.iload_n 2, 1) := by decide +kernel
theorem dX12_setActive_62 : decode cX12_setActive 62 = .ok (.ifCond .ge 7, 3) := by decide +kernel
theorem dX12_setActive_69 : decode cX12_setActive 69 = .ok (.aload_n 0, 1) := by decide +kernel
theorem dX12_setActive_70 : decode cX12_setActive 70 = .ok (.getfield 1183, 3) := by decide +kernel
theorem dX12_setActive_73 : decode cX12_setActive 73 = .ok (.iconst 4, 1) := by decide +kernel
theorem dX12_setActive_74 : decode cX12_setActive 74 = .ok (.iload_n 1, 1) := by decide +kernel
theorem dX12_setActive_75 : decode cX12_setActive 75 = .ok (.imul, 1) := by decide +kernel
theorem dX12_setActive_76 : decode cX12_setActive 76 = .ok (.iload_n 2, 1) := by decide +kernel
theorem dX12_setActive_77 : decode cX12_setActive 77 = .ok (.iadd, 1) := by decide +kernel
theorem dX12_setActive_78 : decode cX12_setActive 78 = .ok (.iaload, 1) := by decide +kernel
theorem dX12_setActive_65 : decode cX12_setActive 65 = .ok (.iconst (-1), 1) := by decide +kernel
theorem dX12_setActive_66 : decode cX12_setActive 66 = .ok (.goto 13, 3) := by decide +kernel
theorem dX12_setActive_54 : decode cX12_setActive 54 = .ok (.iconst 0, 1) := by decide +kernel
theorem dX12_setActive_55 : decode cX12_setActive 55 = .ok (.ireturn, 1) := by decide +kernel
theorem dX12_setActive_21 : decode cX12_setActive 21 = .ok (.istore_n 2, 1) := by decide +kernel
theorem dX12_setActive_22 : decode cX12_setActive 22 = .ok (.iload_n 2, 1) := by decide +kernel
theorem dX12_setActive_23 : decode cX12_setActive 23 = .ok (.ifCond .ge 24, 3) := by decide +kernel
theorem dX12_setActive_26 : decode cX12_setActive 26 = .ok (.aload_n 0, 1) := by decide +kernel
theorem dX12_setActive_27 : decode cX12_setActive 27 = .ok (.getfield 1189, 3) := by decide +kernel
theorem dX12_setActive_30 : decode cX12_setActive 30 = .ok (.iconst 2, 1) := by decide +kernel
theorem dX12_setActive_31 : decode cX12_setActive 31 = .ok (.iload_n 1, 1) := by decide +kernel
theorem dX12_setActive_32 : decode cX12_setActive 32 = .ok (.imul, 1) := by decide +kernel
theorem dX12_setActive_33 : decode cX12_setActive 33 = .ok (.iaload, 1) := by decide +kernel
theorem dX12_setActive_34 : decode cX12_setActive 34 = .ok (.ifCond .le 13, 3) := by decide +kernel
theorem dX12_setActive_37 : decode cX12_setActive 37 = .ok (.aload_n 0, 1) := by decide +kernel
theorem dX12_setActive_38 : decode cX12_setActive 38 = .ok (.iload_n 1, 1) := by decide +kernel
theorem dX12_setActive_39 : decode cX12_setActive 39 = .ok (.ldc_w 1370, 3) := by decide +kernel
theorem kX12_no : h_ml mX12_no 2 := ⟨h_t11 105 rfl rfl, h_t1 16 rfl rfl, ⟨by decide, by decide, by decide +kernel⟩, by decide⟩
theorem lX12_1304 : Cond.methodLink RX12 1304 mX12_no.1 ∈ lw_g := h_t11 102 rfl rfl
theorem sX12_no : Cond.instanceMethod mX12_no.1 ∈ lw_g ∧ Cond.selects mX12_no.1.cls mX12_no.1 mX12_no.1 ∈ lw_g := ⟨h_t11 104 rfl rfl, h_ins 266 rfl⟩
theorem dX12_setActive_42 : decode cX12_setActive 42 = .ok (.invokevirtual 1304, 3) := by decide +kernel
theorem dX12_setActive_45 : decode cX12_setActive 45 = .ok (.iconst 1, 1) := by decide +kernel
theorem dX12_setActive_46 : decode cX12_setActive 46 = .ok (.ireturn, 1) := by decide +kernel
theorem dX12_setActive_0 : decode cX12_setActive 0 = .ok (.aload_n 0, 1) := by decide +kernel
theorem dX12_setActive_1 : decode cX12_setActive 1 = .ok (.getfield 1189, 3) := by decide +kernel
theorem dX12_setActive_4 : decode cX12_setActive 4 = .ok (.iconst 2, 1) := by decide +kernel
theorem dX12_setActive_5 : decode cX12_setActive 5 = .ok (.iload_n 1, 1) := by decide +kernel
theorem dX12_setActive_6 : decode cX12_setActive 6 = .ok (.imul, 1) := by decide +kernel
theorem dX12_setActive_7 : decode cX12_setActive 7 = .ok (.iaload, 1) := by decide +kernel
theorem dX12_setActive_8 : decode cX12_setActive 8 = .ok (.ifCond .ne 7, 3) := by decide +kernel
theorem dX12_setActive_15 : decode cX12_setActive 15 = .ok (.aload_n 0, 1) := by decide +kernel
theorem dX12_setActive_16 : decode cX12_setActive 16 = .ok (.iload_n 1, 1) := by decide +kernel
theorem dX12_setActive_17 : decode cX12_setActive 17 = .ok (.iconst 0, 1) := by decide +kernel
theorem kX12_scriptOf : h_ml mX12_scriptOf 2 := ⟨h_t11 155 rfl rfl, h_t1 16 rfl rfl, ⟨by decide, by decide, by decide +kernel⟩, by decide⟩
theorem lX12_1336 : Cond.methodLink RX12 1336 mX12_scriptOf.1 ∈ lw_g := h_t11 152 rfl rfl
theorem sX12_scriptOf : Cond.instanceMethod mX12_scriptOf.1 ∈ lw_g ∧ Cond.selects mX12_scriptOf.1.cls mX12_scriptOf.1 mX12_scriptOf.1 ∈ lw_g := ⟨h_t11 154 rfl rfl, h_ins 277 rfl⟩
theorem dX12_setActive_18 : decode cX12_setActive 18 = .ok (.invokevirtual 1336, 3) := by decide +kernel
theorem dX12_setActive_11 : decode cX12_setActive 11 = .ok (.iconst (-1), 1) := by decide +kernel
theorem dX12_setActive_12 : decode cX12_setActive 12 = .ok (.goto 9, 3) := by decide +kernel
def fb_X12_setActive_79  (x1 : Int32) (xs0 : Int32) (xs1 : Int32) (s : uS) : Option (uS × Bool) := (iput 20 s 1150 xs1 xs0).bind fun s1 => (fn_X12_line x1 kW_204 s1).bind fun s4 => some (s4, true)
set_option maxRecDepth 100000 in
set_option maxHeartbeats 4000000 in
theorem xb_X12_setActive_79 {l : Launch} {D : va_G} {A : Nat → ClassId} {B : Nat} {Z : State → Heap → Prop} {vF : Value} (uk : uK B Z vF)   {x1 : Int32} {xs0 : Int32} {xs1 : Int32} {s : uS} {r : (uS × Bool)}  (h : fb_X12_setActive_79  x1 xs0 xs1 s = some r) : GU l D A B Z mX12_setActive 7 (r.1, some (.int (bI r.2))) s 79 [(0, .ref (B + 1079)), (1, .int x1)] [.int xs0, .int xs1, .ref (B + 1150)] := by
  unfold fb_X12_setActive_79 at h
  obtain ⟨s1, e2, h⟩ := uu_ob h
  refine uu_iast e2 dX12_setActive_79 ?_
  refine uu_aload_n dX12_setActive_80 rfl (List.mem_of_getElem? (i := 0) rfl) ?_
  refine uu_iload_n dX12_setActive_81 rfl (List.mem_of_getElem? (i := 1) rfl) ?_
  obtain ⟨cq3, cp3, cv3, cw3⟩ := uk.2.1 204 _ rfl
  refine uu_ldcwS cv3 dX12_setActive_82 ?_
  obtain ⟨s4, e5, h⟩ := uu_ob h
  refine uu_cv (d1 := 5) (k := 1079) (ci := 12) (T := TX12) (N := 153) (As := [.int x1, .ref cq3]) (st := []) (st' := []) (xc_X12_line uk cw3 e5) so_1079.is (by decide) rfl kX12_line lX12_974 sX12_line (by decide) (Nat.le_of_ble_eq_true rfl) dX12_setActive_85 rfl ?_
  refine uu_iconst (v := 1) dX12_setActive_88 (by decide) ?_
  have hr := Option.some.inj h
  subst hr
  exact uu_zret (x := bI true) rfl (bI_z _) dX12_setActive_89
def fb_X12_setActive_47  (x1 : Int32) (x2 : Int32) (s : uS) : Option (uS × Bool) := (fn_X12_commit s).bind fun r1 => if r1.2 = true then (if 0 ≤ x2 then ((iget 20 r1.1 1151 (((4 : Int32) * x1) + x2)).bind fun v5 => fb_X12_setActive_79 x1 v5 x1 r1.1) else (fb_X12_setActive_79 x1 (-1) x1 r1.1)) else (some (r1.1, false))
set_option maxRecDepth 100000 in
set_option maxHeartbeats 4000000 in
theorem xb_X12_setActive_47 {l : Launch} {D : va_G} {A : Nat → ClassId} {B : Nat} {Z : State → Heap → Prop} {vF : Value} (uk : uK B Z vF)   {x1 : Int32} {x2 : Int32} {s : uS} {r : (uS × Bool)}  (h : fb_X12_setActive_47  x1 x2 s = some r) : GU l D A B Z mX12_setActive 7 (r.1, some (.int (bI r.2))) s 47 [(0, .ref (B + 1079)), (1, .int x1), (2, .int x2)] [] := by
  unfold fb_X12_setActive_47 at h
  refine uu_aload_n dX12_setActive_47 rfl (List.mem_of_getElem? (i := 0) rfl) ?_
  obtain ⟨r1, e2, h⟩ := uu_ob h
  refine uu_cv (d1 := 1) (k := 1079) (ci := 12) (T := TX12) (N := 153) (As := []) (st := []) (st' := [.int (bI r1.2)]) (xc_X12_commit uk  e2) so_1079.is (by decide) rfl kX12_commit lX12_993 sX12_commit (by decide) (Nat.le_of_ble_eq_true rfl) dX12_setActive_48 rfl ?_
  refine uu_ifb_ne (tgt := 56) dX12_setActive_51 (by decide) (fun c3 => ?_) (fun c3 => ?_)
  · replace h := uu_pos c3 h
    refine uu_aload_n dX12_setActive_56 rfl (List.mem_of_getElem? (i := 0) rfl) ?_
    refine uu_geta (ci := 12) (N := 153) fX12_926 (by decide) so_1079.is (by decide) (c := 1150) (by decide) dX12_setActive_57 ?_
    refine uu_iload_n dX12_setActive_60 rfl (List.mem_of_getElem? (i := 1) rfl) ?_
    refine uu_iload_n dX12_setActive_61 rfl (List.mem_of_getElem? (i := 2) rfl) ?_
    refine uu_if_ge (tgt := 69) dX12_setActive_62 (by decide) (fun c4 => ?_) (fun c4 => ?_)
    · replace h := uu_pos c4 h
      refine uu_aload_n dX12_setActive_69 rfl (List.mem_of_getElem? (i := 0) rfl) ?_
      refine uu_geta (ci := 12) (N := 153) fX12_1183 (by decide) so_1079.is (by decide) (c := 1151) (by decide) dX12_setActive_70 ?_
      refine uu_iconst (v := 4) dX12_setActive_73 (by decide) ?_
      refine uu_iload_n dX12_setActive_74 rfl (List.mem_of_getElem? (i := 1) rfl) ?_
      refine uu_imul dX12_setActive_75 ?_
      refine uu_iload_n dX12_setActive_76 rfl (List.mem_of_getElem? (i := 2) rfl) ?_
      refine uu_iadd dX12_setActive_77 ?_
      obtain ⟨v5, e6, h⟩ := uu_ob h
      refine uu_iald e6 dX12_setActive_78 ?_
      refine uu_lv [0, 1] (lv' := [(0, .ref (B + 1079)), (1, .int x1)]) rfl ?_
      exact xb_X12_setActive_79 uk  h
    · replace h := uu_neg c4 h
      refine uu_iconst (v := -1) dX12_setActive_65 (by decide) ?_
      refine uu_goto (tgt := 79) dX12_setActive_66 (by decide) ?_
      refine uu_lv [0, 1] (lv' := [(0, .ref (B + 1079)), (1, .int x1)]) rfl ?_
      exact xb_X12_setActive_79 uk  h
  · replace h := uu_neg c3 h
    refine uu_iconst (v := 0) dX12_setActive_54 (by decide) ?_
    have hr := Option.some.inj h
    subst hr
    exact uu_zret (x := bI false) rfl (bI_z _) dX12_setActive_55
def fb_X12_setActive_21  (x1 : Int32) (xs0 : Int32) (s : uS) : Option (uS × Bool) := if 0 ≤ xs0 then (fb_X12_setActive_47 x1 xs0 s) else ((iget 20 s 1164 ((2 : Int32) * x1)).bind fun v2 => if v2 ≤ 0 then (fb_X12_setActive_47 x1 xs0 s) else ((fn_X12_no x1 kW_207 s).bind fun s6 => some (s6, true)))
set_option maxRecDepth 100000 in
set_option maxHeartbeats 4000000 in
theorem xb_X12_setActive_21 {l : Launch} {D : va_G} {A : Nat → ClassId} {B : Nat} {Z : State → Heap → Prop} {vF : Value} (uk : uK B Z vF)   {x1 : Int32} {xs0 : Int32} {s : uS} {r : (uS × Bool)}  (h : fb_X12_setActive_21  x1 xs0 s = some r) : GU l D A B Z mX12_setActive 7 (r.1, some (.int (bI r.2))) s 21 [(0, .ref (B + 1079)), (1, .int x1)] [.int xs0] := by
  unfold fb_X12_setActive_21 at h
  refine uu_istore_n dX12_setActive_21 rfl (by decide) rfl ?_
  refine uu_iload_n dX12_setActive_22 rfl (List.mem_of_getElem? (i := 0) rfl) ?_
  refine uu_if_ge (tgt := 47) dX12_setActive_23 (by decide) (fun c1 => ?_) (fun c1 => ?_)
  · replace h := uu_pos c1 h
    refine uu_lv [1, 2, 0] (lv' := [(0, .ref (B + 1079)), (1, .int x1), (2, .int xs0)]) rfl ?_
    exact xb_X12_setActive_47 uk  h
  · replace h := uu_neg c1 h
    refine uu_aload_n dX12_setActive_26 rfl (List.mem_of_getElem? (i := 1) rfl) ?_
    refine uu_geta (ci := 12) (N := 153) fX12_1189 (by decide) so_1079.is (by decide) (c := 1164) (by decide) dX12_setActive_27 ?_
    refine uu_iconst (v := 2) dX12_setActive_30 (by decide) ?_
    refine uu_iload_n dX12_setActive_31 rfl (List.mem_of_getElem? (i := 2) rfl) ?_
    refine uu_imul dX12_setActive_32 ?_
    obtain ⟨v2, e3, h⟩ := uu_ob h
    refine uu_iald e3 dX12_setActive_33 ?_
    refine uu_if_le (tgt := 47) dX12_setActive_34 (by decide) (fun c4 => ?_) (fun c4 => ?_)
    · replace h := uu_pos c4 h
      refine uu_lv [1, 2, 0] (lv' := [(0, .ref (B + 1079)), (1, .int x1), (2, .int xs0)]) rfl ?_
      exact xb_X12_setActive_47 uk  h
    · replace h := uu_neg c4 h
      refine uu_aload_n dX12_setActive_37 rfl (List.mem_of_getElem? (i := 1) rfl) ?_
      refine uu_iload_n dX12_setActive_38 rfl (List.mem_of_getElem? (i := 2) rfl) ?_
      obtain ⟨cq5, cp5, cv5, cw5⟩ := uk.2.1 207 _ rfl
      refine uu_ldcwS cv5 dX12_setActive_39 ?_
      obtain ⟨s6, e7, h⟩ := uu_ob h
      refine uu_cv (d1 := 6) (k := 1079) (ci := 12) (T := TX12) (N := 153) (As := [.int x1, .ref cq5]) (st := []) (st' := []) (xc_X12_no uk cw5 e7) so_1079.is (by decide) rfl kX12_no lX12_1304 sX12_no (by decide) (Nat.le_of_ble_eq_true rfl) dX12_setActive_42 rfl ?_
      refine uu_iconst (v := 1) dX12_setActive_45 (by decide) ?_
      have hr := Option.some.inj h
      subst hr
      exact uu_zret (x := bI true) rfl (bI_z _) dX12_setActive_46
def fn_X12_setActive (x1 : Int32) (s : uS) : Option (uS × Bool) := (iget 20 s 1164 ((2 : Int32) * x1)).bind fun v1 => if v1 = 0 then (fb_X12_setActive_21 x1 (-1) s) else ((fn_X12_scriptOf x1 0 s).bind fun v4 => fb_X12_setActive_21 x1 v4 s)
set_option maxRecDepth 100000 in
set_option maxHeartbeats 4000000 in
theorem xc_X12_setActive {l : Launch} {D : va_G} {A : Nat → ClassId} {B : Nat} {Z : State → Heap → Prop} {vF : Value} (uk : uK B Z vF) {x1 : Int32} {s : uS} {r : (uS × Bool)}  (h : fn_X12_setActive x1 s = some r) : CU l D A B Z 7 mX12_setActive s [.ref (B + 1079), .int x1] (r.1, some (.int (bI r.2))) := by
  unfold fn_X12_setActive at h
  refine cu_of rfl uk.1.1 (Nat.le_of_ble_eq_true rfl) ?_
  show GU _ _ _ _ _ _ _ _ _ 0 [(0, .ref (B + 1079)), (1, .int x1)] []
  refine uu_aload_n dX12_setActive_0 rfl (List.mem_of_getElem? (i := 0) rfl) ?_
  refine uu_geta (ci := 12) (N := 153) fX12_1189 (by decide) so_1079.is (by decide) (c := 1164) (by decide) dX12_setActive_1 ?_
  refine uu_iconst (v := 2) dX12_setActive_4 (by decide) ?_
  refine uu_iload_n dX12_setActive_5 rfl (List.mem_of_getElem? (i := 1) rfl) ?_
  refine uu_imul dX12_setActive_6 ?_
  obtain ⟨v1, e2, h⟩ := uu_ob h
  refine uu_iald e2 dX12_setActive_7 ?_
  refine uu_if_ne (tgt := 15) dX12_setActive_8 (by decide) (fun c3 => ?_) (fun c3 => ?_)
  · replace h := uu_neg c3 h
    refine uu_aload_n dX12_setActive_15 rfl (List.mem_of_getElem? (i := 0) rfl) ?_
    refine uu_iload_n dX12_setActive_16 rfl (List.mem_of_getElem? (i := 1) rfl) ?_
    refine uu_iconst (v := 0) dX12_setActive_17 (by decide) ?_
    obtain ⟨v4, e5, h⟩ := uu_ob h
    refine uu_cv (d1 := 1) (k := 1079) (ci := 12) (T := TX12) (N := 153) (As := [.int x1, .int 0]) (st := []) (st' := [.int v4]) (xc_X12_scriptOf uk  e5) so_1079.is (by decide) rfl kX12_scriptOf lX12_1336 sX12_scriptOf (by decide) (Nat.le_of_ble_eq_true rfl) dX12_setActive_18 rfl ?_
    exact xb_X12_setActive_21 uk  h
  · replace h := uu_pos c3 h
    refine uu_iconst (v := -1) dX12_setActive_11 (by decide) ?_
    refine uu_goto (tgt := 21) dX12_setActive_12 (by decide) ?_
    exact xb_X12_setActive_21 uk  h
abbrev mX12_getScript : hM := (yX12_getScript, cX12_getScript, 4, (some (.boolean)))
theorem dX12_getScript_61 : decode cX12_getScript 61 = .ok (.iload_n 3, 1) := by decide +kernel
theorem dX12_getScript_62 : decode cX12_getScript 62 = .ok (.aload_n 0, 1) := by decide +kernel
theorem dX12_getScript_63 : decode cX12_getScript 63 = .ok (.getfield 184, 3) := by decide +kernel
theorem dX12_getScript_66 : decode cX12_getScript 66 = .ok (.if_icmp .ge 20, 3) := by decide +kernel
theorem dX12_getScript_86 : decode cX12_getScript 86 = .ok (.aload_n 0, 1) := by decide +kernel
theorem dX12_getScript_87 : decode cX12_getScript 87 = .ok (.iload_n 1, 1) := by decide +kernel
theorem dX12_getScript_88 : decode cX12_getScript 88 = .ok (.ldc_w 1374, 3) := by decide +kernel
theorem dX12_getScript_91 : decode cX12_getScript 91 = .ok (.invokevirtual 974, 3) := by decide +kernel
theorem dX12_getScript_94 : decode cX12_getScript 94 = .ok (.aload_n 0, 1) := by decide +kernel
theorem dX12_getScript_95 : decode cX12_getScript 95 = .ok (.iload_n 1, 1) := by decide +kernel
theorem dX12_getScript_96 : decode cX12_getScript 96 = .ok (.ldc_w 1334, 3) := by decide +kernel
theorem dX12_getScript_99 : decode cX12_getScript 99 = .ok (.invokevirtual 974, 3) := by decide +kernel
theorem dX12_getScript_102 : decode cX12_getScript 102 = .ok (.iconst 1, 1) := by decide +kernel
theorem dX12_getScript_103 : decode cX12_getScript 103 = .ok (.ireturn, 1) := by decide +kernel
theorem dX12_getScript_69 : decode cX12_getScript 69 = .ok (.aload_n 0, 1) := by decide +kernel
theorem dX12_getScript_70 : decode cX12_getScript 70 = .ok (.iload_n 1, 1) := by decide +kernel
theorem dX12_getScript_71 : decode cX12_getScript 71 = .ok (.aload_n 0, 1) := by decide +kernel
theorem dX12_getScript_72 : decode cX12_getScript 72 = .ok (.getfield 187, 3) := by decide +kernel
theorem dX12_getScript_75 : decode cX12_getScript 75 = .ok (.iload_n 3, 1) := by decide +kernel
theorem dX12_getScript_76 : decode cX12_getScript 76 = .ok (.iaload, 1) := by decide +kernel
theorem dX12_getScript_77 : decode cX12_getScript 77 = .ok (.invokevirtual 54, 3) := by decide +kernel
theorem dX12_getScript_80 : decode cX12_getScript 80 = .ok (.iinc 3 1, 3) := by decide +kernel
theorem dX12_getScript_83 : decode cX12_getScript 83 = .ok (.goto (-22), 3) := by decide +kernel
theorem dX12_getScript_0 : decode cX12_getScript 0 = .ok (.aload_n 0, 1) := by decide +kernel
theorem dX12_getScript_1 : decode cX12_getScript 1 = .ok (.iload_n 1, 1) := by decide +kernel
theorem dX12_getScript_2 : decode cX12_getScript 2 = .ok (.iconst 0, 1) := by decide +kernel
theorem dX12_getScript_3 : decode cX12_getScript 3 = .ok (.invokevirtual 1336, 3) := by decide +kernel
theorem dX12_getScript_6 : decode cX12_getScript 6 = .ok (.istore_n 2, 1) := by decide +kernel
theorem dX12_getScript_7 : decode cX12_getScript 7 = .ok (.iload_n 2, 1) := by decide +kernel
theorem dX12_getScript_8 : decode cX12_getScript 8 = .ok (.ifCond .ge 13, 3) := by decide +kernel
theorem dX12_getScript_21 : decode cX12_getScript 21 = .ok (.aload_n 0, 1) := by decide +kernel
theorem dX12_getScript_22 : decode cX12_getScript 22 = .ok (.aload_n 0, 1) := by decide +kernel
theorem dX12_getScript_23 : decode cX12_getScript 23 = .ok (.getfield 1183, 3) := by decide +kernel
theorem dX12_getScript_26 : decode cX12_getScript 26 = .ok (.iconst 4, 1) := by decide +kernel
theorem dX12_getScript_27 : decode cX12_getScript 27 = .ok (.iload_n 1, 1) := by decide +kernel
theorem dX12_getScript_28 : decode cX12_getScript 28 = .ok (.imul, 1) := by decide +kernel
theorem dX12_getScript_29 : decode cX12_getScript 29 = .ok (.iload_n 2, 1) := by decide +kernel
theorem dX12_getScript_30 : decode cX12_getScript 30 = .ok (.iadd, 1) := by decide +kernel
theorem dX12_getScript_31 : decode cX12_getScript 31 = .ok (.iaload, 1) := by decide +kernel
theorem kX12_loadScript : h_ml mX12_loadScript 1 := ⟨h_t8 56 rfl rfl, h_t1 16 rfl rfl, ⟨by decide, by decide, by decide +kernel⟩, by decide⟩
theorem lX12_935 : Cond.methodLink RX12 935 mX12_loadScript.1 ∈ lw_g := h_t8 53 rfl rfl
theorem sX12_loadScript : Cond.instanceMethod mX12_loadScript.1 ∈ lw_g ∧ Cond.selects mX12_loadScript.1.cls mX12_loadScript.1 mX12_loadScript.1 ∈ lw_g := ⟨h_t8 55 rfl rfl, h_ins 117 rfl⟩
theorem dX12_getScript_32 : decode cX12_getScript 32 = .ok (.invokevirtual 935, 3) := by decide +kernel
theorem dX12_getScript_35 : decode cX12_getScript 35 = .ok (.aload_n 0, 1) := by decide +kernel
theorem dX12_getScript_36 : decode cX12_getScript 36 = .ok (.iload_n 1, 1) := by decide +kernel
theorem dX12_getScript_37 : decode cX12_getScript 37 = .ok (.bipush 123, 2) := by decide +kernel
theorem dX12_getScript_39 : decode cX12_getScript 39 = .ok (.invokevirtual 54, 3) := by decide +kernel
theorem dX12_getScript_42 : decode cX12_getScript 42 = .ok (.aload_n 0, 1) := by decide +kernel
theorem dX12_getScript_43 : decode cX12_getScript 43 = .ok (.iload_n 1, 1) := by decide +kernel
theorem dX12_getScript_44 : decode cX12_getScript 44 = .ok (.aload_n 0, 1) := by decide +kernel
theorem dX12_getScript_45 : decode cX12_getScript 45 = .ok (.getfield 184, 3) := by decide +kernel
theorem kX12_sayNumber : h_ml mX12_sayNumber 2 := ⟨h_t11 151 rfl rfl, h_t1 16 rfl rfl, ⟨by decide, by decide, by decide +kernel⟩, by decide⟩
theorem lX12_1358 : Cond.methodLink RX12 1358 mX12_sayNumber.1 ∈ lw_g := h_t11 148 rfl rfl
theorem sX12_sayNumber : Cond.instanceMethod mX12_sayNumber.1 ∈ lw_g ∧ Cond.selects mX12_sayNumber.1.cls mX12_sayNumber.1 mX12_sayNumber.1 ∈ lw_g := ⟨h_t11 150 rfl rfl, h_ins 276 rfl⟩
theorem dX12_getScript_48 : decode cX12_getScript 48 = .ok (.invokevirtual 1358, 3) := by decide +kernel
theorem dX12_getScript_51 : decode cX12_getScript 51 = .ok (.aload_n 0, 1) := by decide +kernel
theorem dX12_getScript_52 : decode cX12_getScript 52 = .ok (.iload_n 1, 1) := by decide +kernel
theorem dX12_getScript_53 : decode cX12_getScript 53 = .ok (.ldc_w 1372, 3) := by decide +kernel
theorem dX12_getScript_56 : decode cX12_getScript 56 = .ok (.invokevirtual 974, 3) := by decide +kernel
theorem dX12_getScript_59 : decode cX12_getScript 59 = .ok (.iconst 0, 1) := by decide +kernel
theorem dX12_getScript_60 : decode cX12_getScript 60 = .ok (.istore_n 3, 1) := by decide +kernel
theorem dX12_getScript_11 : decode cX12_getScript 11 = .ok (.aload_n 0, 1) := by decide +kernel
theorem dX12_getScript_12 : decode cX12_getScript 12 = .ok (.iload_n 1, 1) := by decide +kernel
theorem dX12_getScript_13 : decode cX12_getScript 13 = .ok (.ldc_w 1370, 3) := by decide +kernel
theorem dX12_getScript_16 : decode cX12_getScript 16 = .ok (.invokevirtual 1304, 3) := by decide +kernel
theorem dX12_getScript_19 : decode cX12_getScript 19 = .ok (.iconst 1, 1) := by decide +kernel
theorem dX12_getScript_20 : decode cX12_getScript 20 = .ok (.ireturn, 1) := by decide +kernel
def fb_X12_getScript_61 (K61 : Int32 → Int32 → uS → Option (uS × Bool)) (x1 : Int32) (x3 : Int32) (s : uS) : Option (uS × Bool) := if (s.I 1079 29) ≤ x3 then ((fn_X12_line x1 kW_209 s).bind fun s3 => (fn_X12_line x1 kW_204 s3).bind fun s6 => some (s6, true)) else ((iget 20 s 1096 x3).bind fun v8 => (fn_X12_say x1 v8 s).bind fun s10 => K61 x1 (x3 + 1) s10)
set_option maxRecDepth 100000 in
set_option maxHeartbeats 4000000 in
theorem xb_X12_getScript_61 {l : Launch} {D : va_G} {A : Nat → ClassId} {B : Nat} {Z : State → Heap → Prop} {vF : Value} (uk : uK B Z vF) {K61 : Int32 → Int32 → uS → Option (uS × Bool)} (hK61 : ∀ (x1 : Int32) (x3 : Int32)  (s : uS) (r : (uS × Bool)), K61 x1 x3 s = some r → GU l D A B Z mX12_getScript 7 (r.1, some (.int (bI r.2))) s 61 [(0, .ref (B + 1079)), (1, .int x1), (3, .int x3)] []) {x1 : Int32} {x3 : Int32} {s : uS} {r : (uS × Bool)}  (h : fb_X12_getScript_61 K61 x1 x3 s = some r) : GU l D A B Z mX12_getScript 7 (r.1, some (.int (bI r.2))) s 61 [(0, .ref (B + 1079)), (1, .int x1), (3, .int x3)] [] := by
  unfold fb_X12_getScript_61 at h
  refine uu_iload_n dX12_getScript_61 rfl (List.mem_of_getElem? (i := 2) rfl) ?_
  refine uu_aload_n dX12_getScript_62 rfl (List.mem_of_getElem? (i := 0) rfl) ?_
  refine uu_geti (ci := 12) (N := 153) fX12_184 (by decide) so_1079.is (by decide) (by decide) dX12_getScript_63 ?_
  refine uu_icmp_ge (tgt := 86) dX12_getScript_66 (by decide) (fun c1 => ?_) (fun c1 => ?_)
  · replace h := uu_pos c1 h
    refine uu_aload_n dX12_getScript_86 rfl (List.mem_of_getElem? (i := 0) rfl) ?_
    refine uu_iload_n dX12_getScript_87 rfl (List.mem_of_getElem? (i := 1) rfl) ?_
    obtain ⟨cq2, cp2, cv2, cw2⟩ := uk.2.1 209 _ rfl
    refine uu_ldcwS cv2 dX12_getScript_88 ?_
    obtain ⟨s3, e4, h⟩ := uu_ob h
    refine uu_cv (d1 := 5) (k := 1079) (ci := 12) (T := TX12) (N := 153) (As := [.int x1, .ref cq2]) (st := []) (st' := []) (xc_X12_line uk cw2 e4) so_1079.is (by decide) rfl kX12_line lX12_974 sX12_line (by decide) (Nat.le_of_ble_eq_true rfl) dX12_getScript_91 rfl ?_
    refine uu_aload_n dX12_getScript_94 rfl (List.mem_of_getElem? (i := 0) rfl) ?_
    refine uu_iload_n dX12_getScript_95 rfl (List.mem_of_getElem? (i := 1) rfl) ?_
    obtain ⟨cq5, cp5, cv5, cw5⟩ := uk.2.1 204 _ rfl
    refine uu_ldcwS cv5 dX12_getScript_96 ?_
    obtain ⟨s6, e7, h⟩ := uu_ob h
    refine uu_cv (d1 := 5) (k := 1079) (ci := 12) (T := TX12) (N := 153) (As := [.int x1, .ref cq5]) (st := []) (st' := []) (xc_X12_line uk cw5 e7) so_1079.is (by decide) rfl kX12_line lX12_974 sX12_line (by decide) (Nat.le_of_ble_eq_true rfl) dX12_getScript_99 rfl ?_
    refine uu_iconst (v := 1) dX12_getScript_102 (by decide) ?_
    have hr := Option.some.inj h
    subst hr
    exact uu_zret (x := bI true) rfl (bI_z _) dX12_getScript_103
  · replace h := uu_neg c1 h
    refine uu_aload_n dX12_getScript_69 rfl (List.mem_of_getElem? (i := 0) rfl) ?_
    refine uu_iload_n dX12_getScript_70 rfl (List.mem_of_getElem? (i := 1) rfl) ?_
    refine uu_aload_n dX12_getScript_71 rfl (List.mem_of_getElem? (i := 0) rfl) ?_
    refine uu_geta (ci := 12) (N := 153) fX12_187 (by decide) so_1079.is (by decide) (c := 1096) (by decide) dX12_getScript_72 ?_
    refine uu_iload_n dX12_getScript_75 rfl (List.mem_of_getElem? (i := 2) rfl) ?_
    obtain ⟨v8, e9, h⟩ := uu_ob h
    refine uu_iald e9 dX12_getScript_76 ?_
    obtain ⟨s10, e11, h⟩ := uu_ob h
    refine uu_cv (d1 := 0) (k := 1079) (ci := 12) (T := TX12) (N := 153) (As := [.int x1, .int v8]) (st := []) (st' := []) (xc_X12_say uk  e11) so_1079.is (by decide) rfl kX12_say lX12_54 sX12_say (by decide) (Nat.le_of_ble_eq_true rfl) dX12_getScript_77 rfl ?_
    refine uu_iinc (v := x3 + 1) dX12_getScript_80 (k := 2) rfl rfl (by decide) rfl ?_
    refine uu_goto (tgt := 61) dX12_getScript_83 (by decide) ?_
    refine uu_lv [1, 2, 0] (lv' := [(0, .ref (B + 1079)), (1, .int x1), (3, .int (x3 + 1))]) rfl ?_
    exact hK61 x1 (x3 + 1) _ _ h
def fn_X12_getScript_61  : Nat → Int32 → Int32 → uS → Option (uS × Bool)
  | 0 => fun _ _ _ => none
  | n + 1 => fb_X12_getScript_61 (fn_X12_getScript_61  n)
set_option maxRecDepth 100000 in
set_option maxHeartbeats 4000000 in
theorem xn_X12_getScript_61 {l : Launch} {D : va_G} {A : Nat → ClassId} {B : Nat} {Z : State → Heap → Prop} {vF : Value} (uk : uK B Z vF)   : ∀ (n : Nat) (x1 : Int32) (x3 : Int32)  (s : uS) (r : (uS × Bool)), fn_X12_getScript_61  n x1 x3 s = some r → GU l D A B Z mX12_getScript 7 (r.1, some (.int (bI r.2))) s 61 [(0, .ref (B + 1079)), (1, .int x1), (3, .int x3)] [] := by
  intro n
  induction n with
  | zero => intro x1 x3 s r h
            cases h
  | succ n ih => intro x1 x3 s r h
                 exact xb_X12_getScript_61 uk ih  h
def fn_X12_getScript (x1 : Int32) (s : uS) : Option (uS × Bool) := (fn_X12_scriptOf x1 0 s).bind fun v1 => if 0 ≤ v1 then ((iget 20 s 1151 (((4 : Int32) * x1) + v1)).bind fun v4 => (fn_X12_loadScript v4 s).bind fun s6 => (fn_X12_say x1 123 s6).bind fun s8 => (fn_X12_sayNumber x1 (s8.I 1079 29) s8).bind fun s10 => (fn_X12_line x1 kW_208 s10).bind fun s13 => fn_X12_getScript_61 uFu x1 0 s13) else ((fn_X12_no x1 kW_207 s).bind fun s16 => some (s16, true))
set_option maxRecDepth 100000 in
set_option maxHeartbeats 4000000 in
theorem xc_X12_getScript {l : Launch} {D : va_G} {A : Nat → ClassId} {B : Nat} {Z : State → Heap → Prop} {vF : Value} (uk : uK B Z vF) {x1 : Int32} {s : uS} {r : (uS × Bool)}  (h : fn_X12_getScript x1 s = some r) : CU l D A B Z 7 mX12_getScript s [.ref (B + 1079), .int x1] (r.1, some (.int (bI r.2))) := by
  unfold fn_X12_getScript at h
  refine cu_of rfl uk.1.1 (Nat.le_of_ble_eq_true rfl) ?_
  show GU _ _ _ _ _ _ _ _ _ 0 [(0, .ref (B + 1079)), (1, .int x1)] []
  refine uu_aload_n dX12_getScript_0 rfl (List.mem_of_getElem? (i := 0) rfl) ?_
  refine uu_iload_n dX12_getScript_1 rfl (List.mem_of_getElem? (i := 1) rfl) ?_
  refine uu_iconst (v := 0) dX12_getScript_2 (by decide) ?_
  obtain ⟨v1, e2, h⟩ := uu_ob h
  refine uu_cv (d1 := 1) (k := 1079) (ci := 12) (T := TX12) (N := 153) (As := [.int x1, .int 0]) (st := []) (st' := [.int v1]) (xc_X12_scriptOf uk  e2) so_1079.is (by decide) rfl kX12_scriptOf lX12_1336 sX12_scriptOf (by decide) (Nat.le_of_ble_eq_true rfl) dX12_getScript_3 rfl ?_
  refine uu_istore_n dX12_getScript_6 rfl (by decide) rfl ?_
  refine uu_iload_n dX12_getScript_7 rfl (List.mem_of_getElem? (i := 0) rfl) ?_
  refine uu_if_ge (tgt := 21) dX12_getScript_8 (by decide) (fun c3 => ?_) (fun c3 => ?_)
  · replace h := uu_pos c3 h
    refine uu_aload_n dX12_getScript_21 rfl (List.mem_of_getElem? (i := 1) rfl) ?_
    refine uu_aload_n dX12_getScript_22 rfl (List.mem_of_getElem? (i := 1) rfl) ?_
    refine uu_geta (ci := 12) (N := 153) fX12_1183 (by decide) so_1079.is (by decide) (c := 1151) (by decide) dX12_getScript_23 ?_
    refine uu_iconst (v := 4) dX12_getScript_26 (by decide) ?_
    refine uu_iload_n dX12_getScript_27 rfl (List.mem_of_getElem? (i := 2) rfl) ?_
    refine uu_imul dX12_getScript_28 ?_
    refine uu_iload_n dX12_getScript_29 rfl (List.mem_of_getElem? (i := 0) rfl) ?_
    refine uu_iadd dX12_getScript_30 ?_
    obtain ⟨v4, e5, h⟩ := uu_ob h
    refine uu_iald e5 dX12_getScript_31 ?_
    obtain ⟨s6, e7, h⟩ := uu_ob h
    refine uu_cv (d1 := 0) (k := 1079) (ci := 12) (T := TX12) (N := 153) (As := [.int v4]) (st := []) (st' := []) (xc_X12_loadScript uk  e7) so_1079.is (by decide) rfl kX12_loadScript lX12_935 sX12_loadScript (by decide) (Nat.le_of_ble_eq_true rfl) dX12_getScript_32 rfl ?_
    refine uu_aload_n dX12_getScript_35 rfl (List.mem_of_getElem? (i := 1) rfl) ?_
    refine uu_iload_n dX12_getScript_36 rfl (List.mem_of_getElem? (i := 2) rfl) ?_
    refine uu_bipush (v := 123) dX12_getScript_37 (by decide) ?_
    obtain ⟨s8, e9, h⟩ := uu_ob h
    refine uu_cv (d1 := 0) (k := 1079) (ci := 12) (T := TX12) (N := 153) (As := [.int x1, .int 123]) (st := []) (st' := []) (xc_X12_say uk  e9) so_1079.is (by decide) rfl kX12_say lX12_54 sX12_say (by decide) (Nat.le_of_ble_eq_true rfl) dX12_getScript_39 rfl ?_
    refine uu_aload_n dX12_getScript_42 rfl (List.mem_of_getElem? (i := 1) rfl) ?_
    refine uu_iload_n dX12_getScript_43 rfl (List.mem_of_getElem? (i := 2) rfl) ?_
    refine uu_aload_n dX12_getScript_44 rfl (List.mem_of_getElem? (i := 1) rfl) ?_
    refine uu_geti (ci := 12) (N := 153) fX12_184 (by decide) so_1079.is (by decide) (by decide) dX12_getScript_45 ?_
    obtain ⟨s10, e11, h⟩ := uu_ob h
    refine uu_cv (d1 := 2) (k := 1079) (ci := 12) (T := TX12) (N := 153) (As := [.int x1, .int (s8.I 1079 29)]) (st := []) (st' := []) (xc_X12_sayNumber uk  e11) so_1079.is (by decide) rfl kX12_sayNumber lX12_1358 sX12_sayNumber (by decide) (Nat.le_of_ble_eq_true rfl) dX12_getScript_48 rfl ?_
    refine uu_aload_n dX12_getScript_51 rfl (List.mem_of_getElem? (i := 1) rfl) ?_
    refine uu_iload_n dX12_getScript_52 rfl (List.mem_of_getElem? (i := 2) rfl) ?_
    obtain ⟨cq12, cp12, cv12, cw12⟩ := uk.2.1 208 _ rfl
    refine uu_ldcwS cv12 dX12_getScript_53 ?_
    obtain ⟨s13, e14, h⟩ := uu_ob h
    refine uu_cv (d1 := 5) (k := 1079) (ci := 12) (T := TX12) (N := 153) (As := [.int x1, .ref cq12]) (st := []) (st' := []) (xc_X12_line uk cw12 e14) so_1079.is (by decide) rfl kX12_line lX12_974 sX12_line (by decide) (Nat.le_of_ble_eq_true rfl) dX12_getScript_56 rfl ?_
    refine uu_iconst (v := 0) dX12_getScript_59 (by decide) ?_
    refine uu_istore_n dX12_getScript_60 rfl (by decide) rfl ?_
    refine uu_lv [2, 3, 0] (lv' := [(0, .ref (B + 1079)), (1, .int x1), (3, .int 0)]) rfl ?_
    exact xn_X12_getScript_61 uk  _ _ _ _ _ h
  · replace h := uu_neg c3 h
    refine uu_aload_n dX12_getScript_11 rfl (List.mem_of_getElem? (i := 1) rfl) ?_
    refine uu_iload_n dX12_getScript_12 rfl (List.mem_of_getElem? (i := 2) rfl) ?_
    obtain ⟨cq15, cp15, cv15, cw15⟩ := uk.2.1 207 _ rfl
    refine uu_ldcwS cv15 dX12_getScript_13 ?_
    obtain ⟨s16, e17, h⟩ := uu_ob h
    refine uu_cv (d1 := 6) (k := 1079) (ci := 12) (T := TX12) (N := 153) (As := [.int x1, .ref cq15]) (st := []) (st' := []) (xc_X12_no uk cw15 e17) so_1079.is (by decide) rfl kX12_no lX12_1304 sX12_no (by decide) (Nat.le_of_ble_eq_true rfl) dX12_getScript_16 rfl ?_
    refine uu_iconst (v := 1) dX12_getScript_19 (by decide) ?_
    have hr := Option.some.inj h
    subst hr
    exact uu_zret (x := bI true) rfl (bI_z _) dX12_getScript_20
abbrev mX12_listScripts : hM := (yX12_listScripts, cX12_listScripts, 6, (some (.boolean)))
theorem dX12_listScripts_113 : decode cX12_listScripts 113 = .ok (.invokevirtual 974, 3) := by decide +kernel
theorem dX12_listScripts_116 : decode cX12_listScripts 116 = .ok (.iinc 2 1, 3) := by decide +kernel
theorem dX12_listScripts_119 : decode cX12_listScripts 119 = .ok (.goto (-117), 3) := by decide +kernel
theorem dX12_listScripts_79 : decode cX12_listScripts 79 = .ok (.aload_n 0, 1) := by decide +kernel
theorem dX12_listScripts_80 : decode cX12_listScripts 80 = .ok (.iload_n 1, 1) := by decide +kernel
theorem dX12_listScripts_81 : decode cX12_listScripts 81 = .ok (.iload 5, 2) := by decide +kernel
theorem dX12_listScripts_83 : decode cX12_listScripts 83 = .ok (.invokevirtual 54, 3) := by decide +kernel
theorem dX12_listScripts_86 : decode cX12_listScripts 86 = .ok (.iinc 4 1, 3) := by decide +kernel
theorem dX12_listScripts_89 : decode cX12_listScripts 89 = .ok (.goto (-56), 3) := by decide +kernel
theorem dX12_listScripts_72 : decode cX12_listScripts 72 = .ok (.aload_n 0, 1) := by decide +kernel
theorem dX12_listScripts_73 : decode cX12_listScripts 73 = .ok (.iload_n 1, 1) := by decide +kernel
theorem dX12_listScripts_74 : decode cX12_listScripts 74 = .ok (.bipush 92, 2) := by decide +kernel
theorem dX12_listScripts_76 : decode cX12_listScripts 76 = .ok (.invokevirtual 54, 3) := by decide +kernel
theorem dX12_listScripts_33 : decode cX12_listScripts 33 = .ok (.iload 4, 2) := by decide +kernel
theorem dX12_listScripts_35 : decode cX12_listScripts 35 = .ok (.aload_n 0, 1) := by decide +kernel
theorem dX12_listScripts_36 : decode cX12_listScripts 36 = .ok (.getfield 1186, 3) := by decide +kernel
theorem dX12_listScripts_39 : decode cX12_listScripts 39 = .ok (.iload_n 3, 1) := by decide +kernel
theorem dX12_listScripts_40 : decode cX12_listScripts 40 = .ok (.iaload, 1) := by decide +kernel
theorem dX12_listScripts_41 : decode cX12_listScripts 41 = .ok (.if_icmp .ge 51, 3) := by decide +kernel
theorem dX12_listScripts_92 : decode cX12_listScripts 92 = .ok (.aload_n 0, 1) := by decide +kernel
theorem dX12_listScripts_93 : decode cX12_listScripts 93 = .ok (.iload_n 1, 1) := by decide +kernel
theorem dX12_listScripts_94 : decode cX12_listScripts 94 = .ok (.aload_n 0, 1) := by decide +kernel
theorem dX12_listScripts_95 : decode cX12_listScripts 95 = .ok (.getfield 926, 3) := by decide +kernel
theorem dX12_listScripts_98 : decode cX12_listScripts 98 = .ok (.iload_n 1, 1) := by decide +kernel
theorem dX12_listScripts_99 : decode cX12_listScripts 99 = .ok (.iaload, 1) := by decide +kernel
theorem dX12_listScripts_100 : decode cX12_listScripts 100 = .ok (.iload_n 3, 1) := by decide +kernel
theorem dX12_listScripts_101 : decode cX12_listScripts 101 = .ok (.if_icmp .ne 9, 3) := by decide +kernel
theorem dX12_listScripts_110 : decode cX12_listScripts 110 = .ok (.ldc_w 1317, 3) := by decide +kernel
theorem dX12_listScripts_104 : decode cX12_listScripts 104 = .ok (.ldc_w 1376, 3) := by decide +kernel
theorem dX12_listScripts_107 : decode cX12_listScripts 107 = .ok (.goto 6, 3) := by decide +kernel
theorem dX12_listScripts_44 : decode cX12_listScripts 44 = .ok (.aload_n 0, 1) := by decide +kernel
theorem dX12_listScripts_45 : decode cX12_listScripts 45 = .ok (.getfield 1192, 3) := by decide +kernel
theorem dX12_listScripts_48 : decode cX12_listScripts 48 = .ok (.bipush 20, 2) := by decide +kernel
theorem dX12_listScripts_50 : decode cX12_listScripts 50 = .ok (.iload_n 3, 1) := by decide +kernel
theorem dX12_listScripts_51 : decode cX12_listScripts 51 = .ok (.imul, 1) := by decide +kernel
theorem dX12_listScripts_52 : decode cX12_listScripts 52 = .ok (.iload 4, 2) := by decide +kernel
theorem dX12_listScripts_54 : decode cX12_listScripts 54 = .ok (.iadd, 1) := by decide +kernel
theorem dX12_listScripts_55 : decode cX12_listScripts 55 = .ok (.iaload, 1) := by decide +kernel
theorem dX12_listScripts_56 : decode cX12_listScripts 56 = .ok (.istore 5, 2) := by decide +kernel
theorem dX12_listScripts_58 : decode cX12_listScripts 58 = .ok (.iload 5, 2) := by decide +kernel
theorem dX12_listScripts_60 : decode cX12_listScripts 60 = .ok (.bipush 34, 2) := by decide +kernel
theorem dX12_listScripts_62 : decode cX12_listScripts 62 = .ok (.if_icmp .eq 10, 3) := by decide +kernel
theorem dX12_listScripts_65 : decode cX12_listScripts 65 = .ok (.iload 5, 2) := by decide +kernel
theorem dX12_listScripts_67 : decode cX12_listScripts 67 = .ok (.bipush 92, 2) := by decide +kernel
theorem dX12_listScripts_69 : decode cX12_listScripts 69 = .ok (.if_icmp .ne 10, 3) := by decide +kernel
theorem dX12_listScripts_2 : decode cX12_listScripts 2 = .ok (.iload_n 2, 1) := by decide +kernel
theorem dX12_listScripts_3 : decode cX12_listScripts 3 = .ok (.aload_n 0, 1) := by decide +kernel
theorem dX12_listScripts_4 : decode cX12_listScripts 4 = .ok (.getfield 1180, 3) := by decide +kernel
theorem dX12_listScripts_7 : decode cX12_listScripts 7 = .ok (.iload_n 1, 1) := by decide +kernel
theorem dX12_listScripts_8 : decode cX12_listScripts 8 = .ok (.iaload, 1) := by decide +kernel
theorem dX12_listScripts_9 : decode cX12_listScripts 9 = .ok (.if_icmp .ge 113, 3) := by decide +kernel
theorem dX12_listScripts_122 : decode cX12_listScripts 122 = .ok (.aload_n 0, 1) := by decide +kernel
theorem dX12_listScripts_123 : decode cX12_listScripts 123 = .ok (.iload_n 1, 1) := by decide +kernel
theorem dX12_listScripts_124 : decode cX12_listScripts 124 = .ok (.ldc_w 1334, 3) := by decide +kernel
theorem dX12_listScripts_127 : decode cX12_listScripts 127 = .ok (.invokevirtual 974, 3) := by decide +kernel
theorem dX12_listScripts_130 : decode cX12_listScripts 130 = .ok (.iconst 1, 1) := by decide +kernel
theorem dX12_listScripts_131 : decode cX12_listScripts 131 = .ok (.ireturn, 1) := by decide +kernel
theorem dX12_listScripts_12 : decode cX12_listScripts 12 = .ok (.aload_n 0, 1) := by decide +kernel
theorem dX12_listScripts_13 : decode cX12_listScripts 13 = .ok (.getfield 1183, 3) := by decide +kernel
theorem dX12_listScripts_16 : decode cX12_listScripts 16 = .ok (.iconst 4, 1) := by decide +kernel
theorem dX12_listScripts_17 : decode cX12_listScripts 17 = .ok (.iload_n 1, 1) := by decide +kernel
theorem dX12_listScripts_18 : decode cX12_listScripts 18 = .ok (.imul, 1) := by decide +kernel
theorem dX12_listScripts_19 : decode cX12_listScripts 19 = .ok (.iload_n 2, 1) := by decide +kernel
theorem dX12_listScripts_20 : decode cX12_listScripts 20 = .ok (.iadd, 1) := by decide +kernel
theorem dX12_listScripts_21 : decode cX12_listScripts 21 = .ok (.iaload, 1) := by decide +kernel
theorem dX12_listScripts_22 : decode cX12_listScripts 22 = .ok (.istore_n 3, 1) := by decide +kernel
theorem dX12_listScripts_23 : decode cX12_listScripts 23 = .ok (.aload_n 0, 1) := by decide +kernel
theorem dX12_listScripts_24 : decode cX12_listScripts 24 = .ok (.iload_n 1, 1) := by decide +kernel
theorem dX12_listScripts_25 : decode cX12_listScripts 25 = .ok (.bipush 34, 2) := by decide +kernel
theorem dX12_listScripts_27 : decode cX12_listScripts 27 = .ok (.invokevirtual 54, 3) := by decide +kernel
theorem dX12_listScripts_30 : decode cX12_listScripts 30 = .ok (.iconst 0, 1) := by decide +kernel
theorem dX12_listScripts_31 : decode cX12_listScripts 31 = .ok (.istore 4, 2) := by decide +kernel
theorem dX12_listScripts_0 : decode cX12_listScripts 0 = .ok (.iconst 0, 1) := by decide +kernel
theorem dX12_listScripts_1 : decode cX12_listScripts 1 = .ok (.istore_n 2, 1) := by decide +kernel
def fb_X12_listScripts_113 (K2 : Int32 → Int32 → uS → Option (uS × Bool)) (x1 : Int32) (x2 : Int32) (ws0 : List Nat) (xs1 : Int32) (s : uS) : Option (uS × Bool) := (fn_X12_line xs1 ws0 s).bind fun s1 => K2 x1 (x2 + 1) s1
set_option maxRecDepth 100000 in
set_option maxHeartbeats 4000000 in
theorem xb_X12_listScripts_113 {l : Launch} {D : va_G} {A : Nat → ClassId} {B : Nat} {Z : State → Heap → Prop} {vF : Value} (uk : uK B Z vF) {K2 : Int32 → Int32 → uS → Option (uS × Bool)} (hK2 : ∀ (x1 : Int32) (x2 : Int32)  (s : uS) (r : (uS × Bool)), K2 x1 x2 s = some r → GU l D A B Z mX12_listScripts 6 (r.1, some (.int (bI r.2))) s 2 [(0, .ref (B + 1079)), (1, .int x1), (2, .int x2)] []) {x1 : Int32} {x2 : Int32} {ws0 : List Nat} {xs1 : Int32} {s : uS} {r : (uS × Bool)} {qws0 pws0 : Nat} (hws0 : uStr B Z qws0 pws0 ws0) (h : fb_X12_listScripts_113 K2 x1 x2 ws0 xs1 s = some r) : GU l D A B Z mX12_listScripts 6 (r.1, some (.int (bI r.2))) s 113 [(0, .ref (B + 1079)), (1, .int x1), (2, .int x2)] [.ref qws0, .int xs1, .ref (B + 1079)] := by
  unfold fb_X12_listScripts_113 at h
  obtain ⟨s1, e2, h⟩ := uu_ob h
  refine uu_cv (d1 := 5) (k := 1079) (ci := 12) (T := TX12) (N := 153) (As := [.int xs1, .ref qws0]) (st := []) (st' := []) (xc_X12_line uk hws0 e2) so_1079.is (by decide) rfl kX12_line lX12_974 sX12_line (by decide) (Nat.le_of_ble_eq_true rfl) dX12_listScripts_113 rfl ?_
  refine uu_iinc (v := x2 + 1) dX12_listScripts_116 (k := 2) rfl rfl (by decide) rfl ?_
  refine uu_goto (tgt := 2) dX12_listScripts_119 (by decide) ?_
  refine uu_lv [1, 2, 0] (lv' := [(0, .ref (B + 1079)), (1, .int x1), (2, .int (x2 + 1))]) rfl ?_
  exact hK2 x1 (x2 + 1) _ _ h
def fb_X12_listScripts_79 (K2 : Int32 → Int32 → uS → Option (uS × Bool)) (K33 : Int32 → Int32 → Int32 → Int32 → uS → Option (uS × Bool)) (x1 : Int32) (x2 : Int32) (x3 : Int32) (x4 : Int32) (x5 : Int32) (s : uS) : Option (uS × Bool) := (fn_X12_say x1 x5 s).bind fun s1 => K33 x1 x2 x3 (x4 + 1) s1
set_option maxRecDepth 100000 in
set_option maxHeartbeats 4000000 in
theorem xb_X12_listScripts_79 {l : Launch} {D : va_G} {A : Nat → ClassId} {B : Nat} {Z : State → Heap → Prop} {vF : Value} (uk : uK B Z vF) {K2 : Int32 → Int32 → uS → Option (uS × Bool)} {K33 : Int32 → Int32 → Int32 → Int32 → uS → Option (uS × Bool)} (hK2 : ∀ (x1 : Int32) (x2 : Int32)  (s : uS) (r : (uS × Bool)), K2 x1 x2 s = some r → GU l D A B Z mX12_listScripts 6 (r.1, some (.int (bI r.2))) s 2 [(0, .ref (B + 1079)), (1, .int x1), (2, .int x2)] []) (hK33 : ∀ (x1 : Int32) (x2 : Int32) (x3 : Int32) (x4 : Int32)  (s : uS) (r : (uS × Bool)), K33 x1 x2 x3 x4 s = some r → GU l D A B Z mX12_listScripts 6 (r.1, some (.int (bI r.2))) s 33 [(0, .ref (B + 1079)), (1, .int x1), (2, .int x2), (3, .int x3), (4, .int x4)] []) {x1 : Int32} {x2 : Int32} {x3 : Int32} {x4 : Int32} {x5 : Int32} {s : uS} {r : (uS × Bool)}  (h : fb_X12_listScripts_79 K2 K33 x1 x2 x3 x4 x5 s = some r) : GU l D A B Z mX12_listScripts 6 (r.1, some (.int (bI r.2))) s 79 [(0, .ref (B + 1079)), (1, .int x1), (2, .int x2), (3, .int x3), (4, .int x4), (5, .int x5)] [] := by
  unfold fb_X12_listScripts_79 at h
  refine uu_aload_n dX12_listScripts_79 rfl (List.mem_of_getElem? (i := 0) rfl) ?_
  refine uu_iload_n dX12_listScripts_80 rfl (List.mem_of_getElem? (i := 1) rfl) ?_
  refine uu_iload dX12_listScripts_81 (List.mem_of_getElem? (i := 5) rfl) ?_
  obtain ⟨s1, e2, h⟩ := uu_ob h
  refine uu_cv (d1 := 0) (k := 1079) (ci := 12) (T := TX12) (N := 153) (As := [.int x1, .int x5]) (st := []) (st' := []) (xc_X12_say uk  e2) so_1079.is (by decide) rfl kX12_say lX12_54 sX12_say (by decide) (Nat.le_of_ble_eq_true rfl) dX12_listScripts_83 rfl ?_
  refine uu_iinc (v := x4 + 1) dX12_listScripts_86 (k := 4) rfl rfl (by decide) rfl ?_
  refine uu_goto (tgt := 33) dX12_listScripts_89 (by decide) ?_
  refine uu_lv [1, 2, 3, 4, 0] (lv' := [(0, .ref (B + 1079)), (1, .int x1), (2, .int x2), (3, .int x3), (4, .int (x4 + 1))]) rfl ?_
  exact hK33 x1 x2 x3 (x4 + 1) _ _ h
def fb_X12_listScripts_72 (K2 : Int32 → Int32 → uS → Option (uS × Bool)) (K33 : Int32 → Int32 → Int32 → Int32 → uS → Option (uS × Bool)) (x1 : Int32) (x2 : Int32) (x3 : Int32) (x4 : Int32) (x5 : Int32) (s : uS) : Option (uS × Bool) := (fn_X12_say x1 92 s).bind fun s1 => fb_X12_listScripts_79 K2 K33 x1 x2 x3 x4 x5 s1
set_option maxRecDepth 100000 in
set_option maxHeartbeats 4000000 in
theorem xb_X12_listScripts_72 {l : Launch} {D : va_G} {A : Nat → ClassId} {B : Nat} {Z : State → Heap → Prop} {vF : Value} (uk : uK B Z vF) {K2 : Int32 → Int32 → uS → Option (uS × Bool)} {K33 : Int32 → Int32 → Int32 → Int32 → uS → Option (uS × Bool)} (hK2 : ∀ (x1 : Int32) (x2 : Int32)  (s : uS) (r : (uS × Bool)), K2 x1 x2 s = some r → GU l D A B Z mX12_listScripts 6 (r.1, some (.int (bI r.2))) s 2 [(0, .ref (B + 1079)), (1, .int x1), (2, .int x2)] []) (hK33 : ∀ (x1 : Int32) (x2 : Int32) (x3 : Int32) (x4 : Int32)  (s : uS) (r : (uS × Bool)), K33 x1 x2 x3 x4 s = some r → GU l D A B Z mX12_listScripts 6 (r.1, some (.int (bI r.2))) s 33 [(0, .ref (B + 1079)), (1, .int x1), (2, .int x2), (3, .int x3), (4, .int x4)] []) {x1 : Int32} {x2 : Int32} {x3 : Int32} {x4 : Int32} {x5 : Int32} {s : uS} {r : (uS × Bool)}  (h : fb_X12_listScripts_72 K2 K33 x1 x2 x3 x4 x5 s = some r) : GU l D A B Z mX12_listScripts 6 (r.1, some (.int (bI r.2))) s 72 [(0, .ref (B + 1079)), (1, .int x1), (2, .int x2), (3, .int x3), (4, .int x4), (5, .int x5)] [] := by
  unfold fb_X12_listScripts_72 at h
  refine uu_aload_n dX12_listScripts_72 rfl (List.mem_of_getElem? (i := 0) rfl) ?_
  refine uu_iload_n dX12_listScripts_73 rfl (List.mem_of_getElem? (i := 1) rfl) ?_
  refine uu_bipush (v := 92) dX12_listScripts_74 (by decide) ?_
  obtain ⟨s1, e2, h⟩ := uu_ob h
  refine uu_cv (d1 := 0) (k := 1079) (ci := 12) (T := TX12) (N := 153) (As := [.int x1, .int 92]) (st := []) (st' := []) (xc_X12_say uk  e2) so_1079.is (by decide) rfl kX12_say lX12_54 sX12_say (by decide) (Nat.le_of_ble_eq_true rfl) dX12_listScripts_76 rfl ?_
  exact xb_X12_listScripts_79 uk hK2 hK33 h
def fb_X12_listScripts_33 (K2 : Int32 → Int32 → uS → Option (uS × Bool)) (K33 : Int32 → Int32 → Int32 → Int32 → uS → Option (uS × Bool)) (x1 : Int32) (x2 : Int32) (x3 : Int32) (x4 : Int32) (s : uS) : Option (uS × Bool) := (iget 20 s 1153 x3).bind fun v1 => if v1 ≤ x4 then ((iget 20 s 1150 x1).bind fun v4 => if v4 = x3 then (fb_X12_listScripts_113 K2 x1 x2 kW_210 x1 s) else (fb_X12_listScripts_113 K2 x1 x2 kW_203 x1 s)) else ((iget 20 s 1152 (((20 : Int32) * x3) + x4)).bind fun v9 => if v9 = 34 then (fb_X12_listScripts_72 K2 K33 x1 x2 x3 x4 v9 s) else (if v9 = 92 then (fb_X12_listScripts_72 K2 K33 x1 x2 x3 x4 v9 s) else (fb_X12_listScripts_79 K2 K33 x1 x2 x3 x4 v9 s)))
set_option maxRecDepth 100000 in
set_option maxHeartbeats 4000000 in
theorem xb_X12_listScripts_33 {l : Launch} {D : va_G} {A : Nat → ClassId} {B : Nat} {Z : State → Heap → Prop} {vF : Value} (uk : uK B Z vF) {K2 : Int32 → Int32 → uS → Option (uS × Bool)} {K33 : Int32 → Int32 → Int32 → Int32 → uS → Option (uS × Bool)} (hK2 : ∀ (x1 : Int32) (x2 : Int32)  (s : uS) (r : (uS × Bool)), K2 x1 x2 s = some r → GU l D A B Z mX12_listScripts 6 (r.1, some (.int (bI r.2))) s 2 [(0, .ref (B + 1079)), (1, .int x1), (2, .int x2)] []) (hK33 : ∀ (x1 : Int32) (x2 : Int32) (x3 : Int32) (x4 : Int32)  (s : uS) (r : (uS × Bool)), K33 x1 x2 x3 x4 s = some r → GU l D A B Z mX12_listScripts 6 (r.1, some (.int (bI r.2))) s 33 [(0, .ref (B + 1079)), (1, .int x1), (2, .int x2), (3, .int x3), (4, .int x4)] []) {x1 : Int32} {x2 : Int32} {x3 : Int32} {x4 : Int32} {s : uS} {r : (uS × Bool)}  (h : fb_X12_listScripts_33 K2 K33 x1 x2 x3 x4 s = some r) : GU l D A B Z mX12_listScripts 6 (r.1, some (.int (bI r.2))) s 33 [(0, .ref (B + 1079)), (1, .int x1), (2, .int x2), (3, .int x3), (4, .int x4)] [] := by
  unfold fb_X12_listScripts_33 at h
  refine uu_iload dX12_listScripts_33 (List.mem_of_getElem? (i := 4) rfl) ?_
  refine uu_aload_n dX12_listScripts_35 rfl (List.mem_of_getElem? (i := 0) rfl) ?_
  refine uu_geta (ci := 12) (N := 153) fX12_1186 (by decide) so_1079.is (by decide) (c := 1153) (by decide) dX12_listScripts_36 ?_
  refine uu_iload_n dX12_listScripts_39 rfl (List.mem_of_getElem? (i := 3) rfl) ?_
  obtain ⟨v1, e2, h⟩ := uu_ob h
  refine uu_iald e2 dX12_listScripts_40 ?_
  refine uu_icmp_ge (tgt := 92) dX12_listScripts_41 (by decide) (fun c3 => ?_) (fun c3 => ?_)
  · replace h := uu_pos c3 h
    refine uu_aload_n dX12_listScripts_92 rfl (List.mem_of_getElem? (i := 0) rfl) ?_
    refine uu_iload_n dX12_listScripts_93 rfl (List.mem_of_getElem? (i := 1) rfl) ?_
    refine uu_aload_n dX12_listScripts_94 rfl (List.mem_of_getElem? (i := 0) rfl) ?_
    refine uu_geta (ci := 12) (N := 153) fX12_926 (by decide) so_1079.is (by decide) (c := 1150) (by decide) dX12_listScripts_95 ?_
    refine uu_iload_n dX12_listScripts_98 rfl (List.mem_of_getElem? (i := 1) rfl) ?_
    obtain ⟨v4, e5, h⟩ := uu_ob h
    refine uu_iald e5 dX12_listScripts_99 ?_
    refine uu_iload_n dX12_listScripts_100 rfl (List.mem_of_getElem? (i := 3) rfl) ?_
    refine uu_icmp_ne (tgt := 110) dX12_listScripts_101 (by decide) (fun c6 => ?_) (fun c6 => ?_)
    · replace h := uu_neg c6 h
      obtain ⟨cq7, cp7, cv7, cw7⟩ := uk.2.1 203 _ rfl
      refine uu_ldcwS cv7 dX12_listScripts_110 ?_
      refine uu_lv [0, 1, 2] (lv' := [(0, .ref (B + 1079)), (1, .int x1), (2, .int x2)]) rfl ?_
      exact xb_X12_listScripts_113 uk hK2 cw7 h
    · replace h := uu_pos c6 h
      obtain ⟨cq8, cp8, cv8, cw8⟩ := uk.2.1 210 _ rfl
      refine uu_ldcwS cv8 dX12_listScripts_104 ?_
      refine uu_goto (tgt := 113) dX12_listScripts_107 (by decide) ?_
      refine uu_lv [0, 1, 2] (lv' := [(0, .ref (B + 1079)), (1, .int x1), (2, .int x2)]) rfl ?_
      exact xb_X12_listScripts_113 uk hK2 cw8 h
  · replace h := uu_neg c3 h
    refine uu_aload_n dX12_listScripts_44 rfl (List.mem_of_getElem? (i := 0) rfl) ?_
    refine uu_geta (ci := 12) (N := 153) fX12_1192 (by decide) so_1079.is (by decide) (c := 1152) (by decide) dX12_listScripts_45 ?_
    refine uu_bipush (v := 20) dX12_listScripts_48 (by decide) ?_
    refine uu_iload_n dX12_listScripts_50 rfl (List.mem_of_getElem? (i := 3) rfl) ?_
    refine uu_imul dX12_listScripts_51 ?_
    refine uu_iload dX12_listScripts_52 (List.mem_of_getElem? (i := 4) rfl) ?_
    refine uu_iadd dX12_listScripts_54 ?_
    obtain ⟨v9, e10, h⟩ := uu_ob h
    refine uu_iald e10 dX12_listScripts_55 ?_
    refine uu_istore dX12_listScripts_56 (by decide) rfl ?_
    refine uu_iload dX12_listScripts_58 (List.mem_of_getElem? (i := 0) rfl) ?_
    refine uu_bipush (v := 34) dX12_listScripts_60 (by decide) ?_
    refine uu_icmp_eq (tgt := 72) dX12_listScripts_62 (by decide) (fun c11 => ?_) (fun c11 => ?_)
    · replace h := uu_pos c11 h
      refine uu_lv [1, 2, 3, 4, 5, 0] (lv' := [(0, .ref (B + 1079)), (1, .int x1), (2, .int x2), (3, .int x3), (4, .int x4), (5, .int v9)]) rfl ?_
      exact xb_X12_listScripts_72 uk hK2 hK33 h
    · replace h := uu_neg c11 h
      refine uu_iload dX12_listScripts_65 (List.mem_of_getElem? (i := 0) rfl) ?_
      refine uu_bipush (v := 92) dX12_listScripts_67 (by decide) ?_
      refine uu_icmp_ne (tgt := 79) dX12_listScripts_69 (by decide) (fun c12 => ?_) (fun c12 => ?_)
      · replace h := uu_neg c12 h
        refine uu_lv [1, 2, 3, 4, 5, 0] (lv' := [(0, .ref (B + 1079)), (1, .int x1), (2, .int x2), (3, .int x3), (4, .int x4), (5, .int v9)]) rfl ?_
        exact xb_X12_listScripts_79 uk hK2 hK33 h
      · replace h := uu_pos c12 h
        refine uu_lv [1, 2, 3, 4, 5, 0] (lv' := [(0, .ref (B + 1079)), (1, .int x1), (2, .int x2), (3, .int x3), (4, .int x4), (5, .int v9)]) rfl ?_
        exact xb_X12_listScripts_72 uk hK2 hK33 h
def fn_X12_listScripts_33 (K2 : Int32 → Int32 → uS → Option (uS × Bool)) : Nat → Int32 → Int32 → Int32 → Int32 → uS → Option (uS × Bool)
  | 0 => fun _ _ _ _ _ => none
  | n + 1 => fb_X12_listScripts_33 K2 (fn_X12_listScripts_33 K2 n)
set_option maxRecDepth 100000 in
set_option maxHeartbeats 4000000 in
theorem xn_X12_listScripts_33 {l : Launch} {D : va_G} {A : Nat → ClassId} {B : Nat} {Z : State → Heap → Prop} {vF : Value} (uk : uK B Z vF) {K2 : Int32 → Int32 → uS → Option (uS × Bool)} (hK2 : ∀ (x1 : Int32) (x2 : Int32)  (s : uS) (r : (uS × Bool)), K2 x1 x2 s = some r → GU l D A B Z mX12_listScripts 6 (r.1, some (.int (bI r.2))) s 2 [(0, .ref (B + 1079)), (1, .int x1), (2, .int x2)] []) : ∀ (n : Nat) (x1 : Int32) (x2 : Int32) (x3 : Int32) (x4 : Int32)  (s : uS) (r : (uS × Bool)), fn_X12_listScripts_33 K2 n x1 x2 x3 x4 s = some r → GU l D A B Z mX12_listScripts 6 (r.1, some (.int (bI r.2))) s 33 [(0, .ref (B + 1079)), (1, .int x1), (2, .int x2), (3, .int x3), (4, .int x4)] [] := by
  intro n
  induction n with
  | zero => intro x1 x2 x3 x4 s r h
            cases h
  | succ n ih => intro x1 x2 x3 x4 s r h
                 exact xb_X12_listScripts_33 uk hK2 ih  h
def fb_X12_listScripts_2 (K2 : Int32 → Int32 → uS → Option (uS × Bool)) (x1 : Int32) (x2 : Int32) (s : uS) : Option (uS × Bool) := (iget 20 s 1149 x1).bind fun v1 => if v1 ≤ x2 then ((fn_X12_line x1 kW_204 s).bind fun s5 => some (s5, true)) else ((iget 20 s 1151 (((4 : Int32) * x1) + x2)).bind fun v7 => (fn_X12_say x1 34 s).bind fun s9 => fn_X12_listScripts_33 K2 uFu x1 x2 v7 0 s9)
set_option maxRecDepth 100000 in
set_option maxHeartbeats 4000000 in
theorem xb_X12_listScripts_2 {l : Launch} {D : va_G} {A : Nat → ClassId} {B : Nat} {Z : State → Heap → Prop} {vF : Value} (uk : uK B Z vF) {K2 : Int32 → Int32 → uS → Option (uS × Bool)} (hK2 : ∀ (x1 : Int32) (x2 : Int32)  (s : uS) (r : (uS × Bool)), K2 x1 x2 s = some r → GU l D A B Z mX12_listScripts 6 (r.1, some (.int (bI r.2))) s 2 [(0, .ref (B + 1079)), (1, .int x1), (2, .int x2)] []) {x1 : Int32} {x2 : Int32} {s : uS} {r : (uS × Bool)}  (h : fb_X12_listScripts_2 K2 x1 x2 s = some r) : GU l D A B Z mX12_listScripts 6 (r.1, some (.int (bI r.2))) s 2 [(0, .ref (B + 1079)), (1, .int x1), (2, .int x2)] [] := by
  unfold fb_X12_listScripts_2 at h
  refine uu_iload_n dX12_listScripts_2 rfl (List.mem_of_getElem? (i := 2) rfl) ?_
  refine uu_aload_n dX12_listScripts_3 rfl (List.mem_of_getElem? (i := 0) rfl) ?_
  refine uu_geta (ci := 12) (N := 153) fX12_1180 (by decide) so_1079.is (by decide) (c := 1149) (by decide) dX12_listScripts_4 ?_
  refine uu_iload_n dX12_listScripts_7 rfl (List.mem_of_getElem? (i := 1) rfl) ?_
  obtain ⟨v1, e2, h⟩ := uu_ob h
  refine uu_iald e2 dX12_listScripts_8 ?_
  refine uu_icmp_ge (tgt := 122) dX12_listScripts_9 (by decide) (fun c3 => ?_) (fun c3 => ?_)
  · replace h := uu_pos c3 h
    refine uu_aload_n dX12_listScripts_122 rfl (List.mem_of_getElem? (i := 0) rfl) ?_
    refine uu_iload_n dX12_listScripts_123 rfl (List.mem_of_getElem? (i := 1) rfl) ?_
    obtain ⟨cq4, cp4, cv4, cw4⟩ := uk.2.1 204 _ rfl
    refine uu_ldcwS cv4 dX12_listScripts_124 ?_
    obtain ⟨s5, e6, h⟩ := uu_ob h
    refine uu_cv (d1 := 5) (k := 1079) (ci := 12) (T := TX12) (N := 153) (As := [.int x1, .ref cq4]) (st := []) (st' := []) (xc_X12_line uk cw4 e6) so_1079.is (by decide) rfl kX12_line lX12_974 sX12_line (by decide) (Nat.le_of_ble_eq_true rfl) dX12_listScripts_127 rfl ?_
    refine uu_iconst (v := 1) dX12_listScripts_130 (by decide) ?_
    have hr := Option.some.inj h
    subst hr
    exact uu_zret (x := bI true) rfl (bI_z _) dX12_listScripts_131
  · replace h := uu_neg c3 h
    refine uu_aload_n dX12_listScripts_12 rfl (List.mem_of_getElem? (i := 0) rfl) ?_
    refine uu_geta (ci := 12) (N := 153) fX12_1183 (by decide) so_1079.is (by decide) (c := 1151) (by decide) dX12_listScripts_13 ?_
    refine uu_iconst (v := 4) dX12_listScripts_16 (by decide) ?_
    refine uu_iload_n dX12_listScripts_17 rfl (List.mem_of_getElem? (i := 1) rfl) ?_
    refine uu_imul dX12_listScripts_18 ?_
    refine uu_iload_n dX12_listScripts_19 rfl (List.mem_of_getElem? (i := 2) rfl) ?_
    refine uu_iadd dX12_listScripts_20 ?_
    obtain ⟨v7, e8, h⟩ := uu_ob h
    refine uu_iald e8 dX12_listScripts_21 ?_
    refine uu_istore_n dX12_listScripts_22 rfl (by decide) rfl ?_
    refine uu_aload_n dX12_listScripts_23 rfl (List.mem_of_getElem? (i := 1) rfl) ?_
    refine uu_iload_n dX12_listScripts_24 rfl (List.mem_of_getElem? (i := 2) rfl) ?_
    refine uu_bipush (v := 34) dX12_listScripts_25 (by decide) ?_
    obtain ⟨s9, e10, h⟩ := uu_ob h
    refine uu_cv (d1 := 0) (k := 1079) (ci := 12) (T := TX12) (N := 153) (As := [.int x1, .int 34]) (st := []) (st' := []) (xc_X12_say uk  e10) so_1079.is (by decide) rfl kX12_say lX12_54 sX12_say (by decide) (Nat.le_of_ble_eq_true rfl) dX12_listScripts_27 rfl ?_
    refine uu_iconst (v := 0) dX12_listScripts_30 (by decide) ?_
    refine uu_istore dX12_listScripts_31 (by decide) rfl ?_
    refine uu_lv [2, 3, 4, 1, 0] (lv' := [(0, .ref (B + 1079)), (1, .int x1), (2, .int x2), (3, .int v7), (4, .int 0)]) rfl ?_
    exact xn_X12_listScripts_33 uk hK2 _ _ _ _ _ _ _ h
def fn_X12_listScripts_2  : Nat → Int32 → Int32 → uS → Option (uS × Bool)
  | 0 => fun _ _ _ => none
  | n + 1 => fb_X12_listScripts_2 (fn_X12_listScripts_2  n)
set_option maxRecDepth 100000 in
set_option maxHeartbeats 4000000 in
theorem xn_X12_listScripts_2 {l : Launch} {D : va_G} {A : Nat → ClassId} {B : Nat} {Z : State → Heap → Prop} {vF : Value} (uk : uK B Z vF)   : ∀ (n : Nat) (x1 : Int32) (x2 : Int32)  (s : uS) (r : (uS × Bool)), fn_X12_listScripts_2  n x1 x2 s = some r → GU l D A B Z mX12_listScripts 6 (r.1, some (.int (bI r.2))) s 2 [(0, .ref (B + 1079)), (1, .int x1), (2, .int x2)] [] := by
  intro n
  induction n with
  | zero => intro x1 x2 s r h
            cases h
  | succ n ih => intro x1 x2 s r h
                 exact xb_X12_listScripts_2 uk ih  h
def fn_X12_listScripts (x1 : Int32) (s : uS) : Option (uS × Bool) := fn_X12_listScripts_2 uFu x1 0 s
set_option maxRecDepth 100000 in
set_option maxHeartbeats 4000000 in
theorem xc_X12_listScripts {l : Launch} {D : va_G} {A : Nat → ClassId} {B : Nat} {Z : State → Heap → Prop} {vF : Value} (uk : uK B Z vF) {x1 : Int32} {s : uS} {r : (uS × Bool)}  (h : fn_X12_listScripts x1 s = some r) : CU l D A B Z 6 mX12_listScripts s [.ref (B + 1079), .int x1] (r.1, some (.int (bI r.2))) := by
  unfold fn_X12_listScripts at h
  refine cu_of rfl uk.1.1 (Nat.le_of_ble_eq_true rfl) ?_
  show GU _ _ _ _ _ _ _ _ _ 0 [(0, .ref (B + 1079)), (1, .int x1)] []
  refine uu_iconst (v := 0) dX12_listScripts_0 (by decide) ?_
  refine uu_istore_n dX12_listScripts_1 rfl (by decide) rfl ?_
  refine uu_lv [1, 2, 0] (lv' := [(0, .ref (B + 1079)), (1, .int x1), (2, .int 0)]) rfl ?_
  exact xn_X12_listScripts_2 uk  _ _ _ _ _ h
abbrev mX12_deleteScript : hM := (yX12_deleteScript, cX12_deleteScript, 5, (some (.boolean)))
theorem dX12_deleteScript_59 : decode cX12_deleteScript 59 = .ok (.invokevirtual 1304, 3) := by decide +kernel
theorem dX12_deleteScript_62 : decode cX12_deleteScript 62 = .ok (.iconst 1, 1) := by decide +kernel
theorem dX12_deleteScript_63 : decode cX12_deleteScript 63 = .ok (.ireturn, 1) := by decide +kernel
theorem dX12_deleteScript_44 : decode cX12_deleteScript 44 = .ok (.aload_n 0, 1) := by decide +kernel
theorem dX12_deleteScript_45 : decode cX12_deleteScript 45 = .ok (.iload_n 1, 1) := by decide +kernel
theorem dX12_deleteScript_46 : decode cX12_deleteScript 46 = .ok (.iload_n 3, 1) := by decide +kernel
theorem dX12_deleteScript_47 : decode cX12_deleteScript 47 = .ok (.ifCond .eq 9, 3) := by decide +kernel
theorem dX12_deleteScript_56 : decode cX12_deleteScript 56 = .ok (.ldc_w 1370, 3) := by decide +kernel
theorem dX12_deleteScript_50 : decode cX12_deleteScript 50 = .ok (.ldc_w 1378, 3) := by decide +kernel
theorem dX12_deleteScript_53 : decode cX12_deleteScript 53 = .ok (.goto 6, 3) := by decide +kernel
theorem dX12_deleteScript_90 : decode cX12_deleteScript 90 = .ok (.iload 4, 2) := by decide +kernel
theorem dX12_deleteScript_92 : decode cX12_deleteScript 92 = .ok (.aload_n 0, 1) := by decide +kernel
theorem dX12_deleteScript_93 : decode cX12_deleteScript 93 = .ok (.getfield 1180, 3) := by decide +kernel
theorem dX12_deleteScript_96 : decode cX12_deleteScript 96 = .ok (.iload_n 1, 1) := by decide +kernel
theorem dX12_deleteScript_97 : decode cX12_deleteScript 97 = .ok (.iaload, 1) := by decide +kernel
theorem dX12_deleteScript_98 : decode cX12_deleteScript 98 = .ok (.if_icmp .ge 33, 3) := by decide +kernel
theorem dX12_deleteScript_131 : decode cX12_deleteScript 131 = .ok (.aload_n 0, 1) := by decide +kernel
theorem dX12_deleteScript_132 : decode cX12_deleteScript 132 = .ok (.iload_n 1, 1) := by decide +kernel
theorem dX12_deleteScript_133 : decode cX12_deleteScript 133 = .ok (.ldc_w 1334, 3) := by decide +kernel
theorem dX12_deleteScript_136 : decode cX12_deleteScript 136 = .ok (.invokevirtual 974, 3) := by decide +kernel
theorem dX12_deleteScript_139 : decode cX12_deleteScript 139 = .ok (.iconst 1, 1) := by decide +kernel
theorem dX12_deleteScript_140 : decode cX12_deleteScript 140 = .ok (.ireturn, 1) := by decide +kernel
theorem dX12_deleteScript_101 : decode cX12_deleteScript 101 = .ok (.aload_n 0, 1) := by decide +kernel
theorem dX12_deleteScript_102 : decode cX12_deleteScript 102 = .ok (.getfield 1183, 3) := by decide +kernel
theorem dX12_deleteScript_105 : decode cX12_deleteScript 105 = .ok (.iconst 4, 1) := by decide +kernel
theorem dX12_deleteScript_106 : decode cX12_deleteScript 106 = .ok (.iload_n 1, 1) := by decide +kernel
theorem dX12_deleteScript_107 : decode cX12_deleteScript 107 = .ok (.imul, 1) := by decide +kernel
theorem dX12_deleteScript_108 : decode cX12_deleteScript 108 = .ok (.iload 4, 2) := by decide +kernel
theorem dX12_deleteScript_110 : decode cX12_deleteScript 110 = .ok (.iadd, 1) := by decide +kernel
theorem dX12_deleteScript_111 : decode cX12_deleteScript 111 = .ok (.aload_n 0, 1) := by decide +kernel
theorem dX12_deleteScript_112 : decode cX12_deleteScript 112 = .ok (.getfield 1183, 3) := by decide +kernel
theorem dX12_deleteScript_115 : decode cX12_deleteScript 115 = .ok (.iconst 4, 1) := by decide +kernel
theorem dX12_deleteScript_116 : decode cX12_deleteScript 116 = .ok (.iload_n 1, 1) := by decide +kernel
theorem dX12_deleteScript_117 : decode cX12_deleteScript 117 = .ok (.imul, 1) := by decide +kernel
theorem dX12_deleteScript_118 : decode cX12_deleteScript 118 = .ok (.iload 4, 2) := by decide +kernel
theorem dX12_deleteScript_120 : decode cX12_deleteScript 120 = .ok (.iadd, 1) := by decide +kernel
theorem dX12_deleteScript_121 : decode cX12_deleteScript 121 = .ok (.iconst 1, 1) := by decide +kernel
theorem dX12_deleteScript_122 : decode cX12_deleteScript 122 = .ok (.iadd, 1) := by decide +kernel
theorem dX12_deleteScript_123 : decode cX12_deleteScript 123 = .ok (.iaload, 1) := by decide +kernel
theorem dX12_deleteScript_124 : decode cX12_deleteScript 124 = .ok (.iastore, 1) := by decide +kernel
theorem dX12_deleteScript_125 : decode cX12_deleteScript 125 = .ok (.iinc 4 1, 3) := by decide +kernel
theorem dX12_deleteScript_128 : decode cX12_deleteScript 128 = .ok (.goto (-38), 3) := by decide +kernel
theorem dX12_deleteScript_35 : decode cX12_deleteScript 35 = .ok (.istore_n 3, 1) := by decide +kernel
theorem dX12_deleteScript_36 : decode cX12_deleteScript 36 = .ok (.iload_n 2, 1) := by decide +kernel
theorem dX12_deleteScript_37 : decode cX12_deleteScript 37 = .ok (.ifCond .lt 7, 3) := by decide +kernel
theorem dX12_deleteScript_40 : decode cX12_deleteScript 40 = .ok (.iload_n 3, 1) := by decide +kernel
theorem dX12_deleteScript_41 : decode cX12_deleteScript 41 = .ok (.ifCond .eq 23, 3) := by decide +kernel
theorem dX12_deleteScript_64 : decode cX12_deleteScript 64 = .ok (.aload_n 0, 1) := by decide +kernel
theorem dX12_deleteScript_65 : decode cX12_deleteScript 65 = .ok (.invokevirtual 993, 3) := by decide +kernel
theorem dX12_deleteScript_68 : decode cX12_deleteScript 68 = .ok (.ifCond .ne 5, 3) := by decide +kernel
theorem dX12_deleteScript_73 : decode cX12_deleteScript 73 = .ok (.aload_n 0, 1) := by decide +kernel
theorem dX12_deleteScript_74 : decode cX12_deleteScript 74 = .ok (.getfield 1180, 3) := by decide +kernel
theorem dX12_deleteScript_77 : decode cX12_deleteScript 77 = .ok (.iload_n 1, 1) := by decide +kernel
theorem dX12_deleteScript_78 : decode cX12_deleteScript 78 = .ok (.aload_n 0, 1) := by decide +kernel
theorem dX12_deleteScript_79 : decode cX12_deleteScript 79 = .ok (.getfield 1180, 3) := by decide +kernel
theorem dX12_deleteScript_82 : decode cX12_deleteScript 82 = .ok (.iload_n 1, 1) := by decide +kernel
theorem dX12_deleteScript_83 : decode cX12_deleteScript 83 = .ok (.iaload, 1) := by decide +kernel
theorem dX12_deleteScript_84 : decode cX12_deleteScript 84 = .ok (.iconst 1, 1) := by decide +kernel
theorem dX12_deleteScript_85 : decode cX12_deleteScript 85 = .ok (.isub, 1) := by decide +kernel
theorem dX12_deleteScript_86 : decode cX12_deleteScript 86 = .ok (.iastore, 1) := by decide +kernel
theorem dX12_deleteScript_87 : decode cX12_deleteScript 87 = .ok (.iload_n 2, 1) := by decide +kernel
theorem dX12_deleteScript_88 : decode cX12_deleteScript 88 = .ok (.istore 4, 2) := by decide +kernel
theorem dX12_deleteScript_71 : decode cX12_deleteScript 71 = .ok (.iconst 0, 1) := by decide +kernel
theorem dX12_deleteScript_72 : decode cX12_deleteScript 72 = .ok (.ireturn, 1) := by decide +kernel
theorem dX12_deleteScript_0 : decode cX12_deleteScript 0 = .ok (.aload_n 0, 1) := by decide +kernel
theorem dX12_deleteScript_1 : decode cX12_deleteScript 1 = .ok (.iload_n 1, 1) := by decide +kernel
theorem dX12_deleteScript_2 : decode cX12_deleteScript 2 = .ok (.iconst 0, 1) := by decide +kernel
theorem dX12_deleteScript_3 : decode cX12_deleteScript 3 = .ok (.invokevirtual 1336, 3) := by decide +kernel
theorem dX12_deleteScript_6 : decode cX12_deleteScript 6 = .ok (.istore_n 2, 1) := by decide +kernel
theorem dX12_deleteScript_7 : decode cX12_deleteScript 7 = .ok (.iload_n 2, 1) := by decide +kernel
theorem dX12_deleteScript_8 : decode cX12_deleteScript 8 = .ok (.ifCond .lt 26, 3) := by decide +kernel
theorem dX12_deleteScript_34 : decode cX12_deleteScript 34 = .ok (.iconst 0, 1) := by decide +kernel
theorem dX12_deleteScript_11 : decode cX12_deleteScript 11 = .ok (.aload_n 0, 1) := by decide +kernel
theorem dX12_deleteScript_12 : decode cX12_deleteScript 12 = .ok (.getfield 926, 3) := by decide +kernel
theorem dX12_deleteScript_15 : decode cX12_deleteScript 15 = .ok (.iload_n 1, 1) := by decide +kernel
theorem dX12_deleteScript_16 : decode cX12_deleteScript 16 = .ok (.iaload, 1) := by decide +kernel
theorem dX12_deleteScript_17 : decode cX12_deleteScript 17 = .ok (.aload_n 0, 1) := by decide +kernel
theorem dX12_deleteScript_18 : decode cX12_deleteScript 18 = .ok (.getfield 1183, 3) := by decide +kernel
theorem dX12_deleteScript_21 : decode cX12_deleteScript 21 = .ok (.iconst 4, 1) := by decide +kernel
theorem dX12_deleteScript_22 : decode cX12_deleteScript 22 = .ok (.iload_n 1, 1) := by decide +kernel
theorem dX12_deleteScript_23 : decode cX12_deleteScript 23 = .ok (.imul, 1) := by decide +kernel
theorem dX12_deleteScript_24 : decode cX12_deleteScript 24 = .ok (.iload_n 2, 1) := by decide +kernel
theorem dX12_deleteScript_25 : decode cX12_deleteScript 25 = .ok (.iadd, 1) := by decide +kernel
theorem dX12_deleteScript_26 : decode cX12_deleteScript 26 = .ok (.iaload, 1) := by decide +kernel
theorem dX12_deleteScript_27 : decode cX12_deleteScript 27 = .ok (.if_icmp .ne 7, 3) := by decide +kernel
theorem dX12_deleteScript_30 : decode cX12_deleteScript 30 = .ok (.iconst 1, 1) := by decide +kernel
theorem dX12_deleteScript_31 : decode cX12_deleteScript 31 = .ok (.goto 4, 3) := by decide +kernel
def fb_X12_deleteScript_59  (ws0 : List Nat) (xs1 : Int32) (s : uS) : Option (uS × Bool) := (fn_X12_no xs1 ws0 s).bind fun s1 => some (s1, true)
set_option maxRecDepth 100000 in
set_option maxHeartbeats 4000000 in
theorem xb_X12_deleteScript_59 {l : Launch} {D : va_G} {A : Nat → ClassId} {B : Nat} {Z : State → Heap → Prop} {vF : Value} (uk : uK B Z vF)   {ws0 : List Nat} {xs1 : Int32} {s : uS} {r : (uS × Bool)} {qws0 pws0 : Nat} (hws0 : uStr B Z qws0 pws0 ws0) (h : fb_X12_deleteScript_59  ws0 xs1 s = some r) : GU l D A B Z mX12_deleteScript 7 (r.1, some (.int (bI r.2))) s 59 [] [.ref qws0, .int xs1, .ref (B + 1079)] := by
  unfold fb_X12_deleteScript_59 at h
  obtain ⟨s1, e2, h⟩ := uu_ob h
  refine uu_cv (d1 := 6) (k := 1079) (ci := 12) (T := TX12) (N := 153) (As := [.int xs1, .ref qws0]) (st := []) (st' := []) (xc_X12_no uk hws0 e2) so_1079.is (by decide) rfl kX12_no lX12_1304 sX12_no (by decide) (Nat.le_of_ble_eq_true rfl) dX12_deleteScript_59 rfl ?_
  refine uu_iconst (v := 1) dX12_deleteScript_62 (by decide) ?_
  have hr := Option.some.inj h
  subst hr
  exact uu_zret (x := bI true) rfl (bI_z _) dX12_deleteScript_63
def fb_X12_deleteScript_44  (x1 : Int32) (b3 : Bool) (s : uS) : Option (uS × Bool) := if b3 = true then (fb_X12_deleteScript_59 kW_211 x1 s) else (fb_X12_deleteScript_59 kW_207 x1 s)
set_option maxRecDepth 100000 in
set_option maxHeartbeats 4000000 in
theorem xb_X12_deleteScript_44 {l : Launch} {D : va_G} {A : Nat → ClassId} {B : Nat} {Z : State → Heap → Prop} {vF : Value} (uk : uK B Z vF)   {x1 : Int32} {b3 : Bool} {s : uS} {r : (uS × Bool)}  (h : fb_X12_deleteScript_44  x1 b3 s = some r) : GU l D A B Z mX12_deleteScript 7 (r.1, some (.int (bI r.2))) s 44 [(0, .ref (B + 1079)), (1, .int x1), (3, .int (bI b3))] [] := by
  unfold fb_X12_deleteScript_44 at h
  refine uu_aload_n dX12_deleteScript_44 rfl (List.mem_of_getElem? (i := 0) rfl) ?_
  refine uu_iload_n dX12_deleteScript_45 rfl (List.mem_of_getElem? (i := 1) rfl) ?_
  refine uu_iload_n dX12_deleteScript_46 rfl (List.mem_of_getElem? (i := 2) rfl) ?_
  refine uu_ifb_eq (tgt := 56) dX12_deleteScript_47 (by decide) (fun c1 => ?_) (fun c1 => ?_)
  · replace h := uu_neg c1 h
    obtain ⟨cq2, cp2, cv2, cw2⟩ := uk.2.1 207 _ rfl
    refine uu_ldcwS cv2 dX12_deleteScript_56 ?_
    refine uu_lv [] (lv' := []) rfl ?_
    exact xb_X12_deleteScript_59 uk cw2 h
  · replace h := uu_pos c1 h
    obtain ⟨cq3, cp3, cv3, cw3⟩ := uk.2.1 211 _ rfl
    refine uu_ldcwS cv3 dX12_deleteScript_50 ?_
    refine uu_goto (tgt := 59) dX12_deleteScript_53 (by decide) ?_
    refine uu_lv [] (lv' := []) rfl ?_
    exact xb_X12_deleteScript_59 uk cw3 h
def fb_X12_deleteScript_90 (K90 : Int32 → Int32 → uS → Option (uS × Bool)) (x1 : Int32) (x4 : Int32) (s : uS) : Option (uS × Bool) := (iget 20 s 1149 x1).bind fun v1 => if v1 ≤ x4 then ((fn_X12_line x1 kW_204 s).bind fun s5 => some (s5, true)) else ((iget 20 s 1151 ((((4 : Int32) * x1) + x4) + 1)).bind fun v7 => (iput 20 s 1151 (((4 : Int32) * x1) + x4) v7).bind fun s9 => K90 x1 (x4 + 1) s9)
set_option maxRecDepth 100000 in
set_option maxHeartbeats 4000000 in
theorem xb_X12_deleteScript_90 {l : Launch} {D : va_G} {A : Nat → ClassId} {B : Nat} {Z : State → Heap → Prop} {vF : Value} (uk : uK B Z vF) {K90 : Int32 → Int32 → uS → Option (uS × Bool)} (hK90 : ∀ (x1 : Int32) (x4 : Int32)  (s : uS) (r : (uS × Bool)), K90 x1 x4 s = some r → GU l D A B Z mX12_deleteScript 7 (r.1, some (.int (bI r.2))) s 90 [(0, .ref (B + 1079)), (1, .int x1), (4, .int x4)] []) {x1 : Int32} {x4 : Int32} {s : uS} {r : (uS × Bool)}  (h : fb_X12_deleteScript_90 K90 x1 x4 s = some r) : GU l D A B Z mX12_deleteScript 7 (r.1, some (.int (bI r.2))) s 90 [(0, .ref (B + 1079)), (1, .int x1), (4, .int x4)] [] := by
  unfold fb_X12_deleteScript_90 at h
  refine uu_iload dX12_deleteScript_90 (List.mem_of_getElem? (i := 2) rfl) ?_
  refine uu_aload_n dX12_deleteScript_92 rfl (List.mem_of_getElem? (i := 0) rfl) ?_
  refine uu_geta (ci := 12) (N := 153) fX12_1180 (by decide) so_1079.is (by decide) (c := 1149) (by decide) dX12_deleteScript_93 ?_
  refine uu_iload_n dX12_deleteScript_96 rfl (List.mem_of_getElem? (i := 1) rfl) ?_
  obtain ⟨v1, e2, h⟩ := uu_ob h
  refine uu_iald e2 dX12_deleteScript_97 ?_
  refine uu_icmp_ge (tgt := 131) dX12_deleteScript_98 (by decide) (fun c3 => ?_) (fun c3 => ?_)
  · replace h := uu_pos c3 h
    refine uu_aload_n dX12_deleteScript_131 rfl (List.mem_of_getElem? (i := 0) rfl) ?_
    refine uu_iload_n dX12_deleteScript_132 rfl (List.mem_of_getElem? (i := 1) rfl) ?_
    obtain ⟨cq4, cp4, cv4, cw4⟩ := uk.2.1 204 _ rfl
    refine uu_ldcwS cv4 dX12_deleteScript_133 ?_
    obtain ⟨s5, e6, h⟩ := uu_ob h
    refine uu_cv (d1 := 5) (k := 1079) (ci := 12) (T := TX12) (N := 153) (As := [.int x1, .ref cq4]) (st := []) (st' := []) (xc_X12_line uk cw4 e6) so_1079.is (by decide) rfl kX12_line lX12_974 sX12_line (by decide) (Nat.le_of_ble_eq_true rfl) dX12_deleteScript_136 rfl ?_
    refine uu_iconst (v := 1) dX12_deleteScript_139 (by decide) ?_
    have hr := Option.some.inj h
    subst hr
    exact uu_zret (x := bI true) rfl (bI_z _) dX12_deleteScript_140
  · replace h := uu_neg c3 h
    refine uu_aload_n dX12_deleteScript_101 rfl (List.mem_of_getElem? (i := 0) rfl) ?_
    refine uu_geta (ci := 12) (N := 153) fX12_1183 (by decide) so_1079.is (by decide) (c := 1151) (by decide) dX12_deleteScript_102 ?_
    refine uu_iconst (v := 4) dX12_deleteScript_105 (by decide) ?_
    refine uu_iload_n dX12_deleteScript_106 rfl (List.mem_of_getElem? (i := 1) rfl) ?_
    refine uu_imul dX12_deleteScript_107 ?_
    refine uu_iload dX12_deleteScript_108 (List.mem_of_getElem? (i := 2) rfl) ?_
    refine uu_iadd dX12_deleteScript_110 ?_
    refine uu_aload_n dX12_deleteScript_111 rfl (List.mem_of_getElem? (i := 0) rfl) ?_
    refine uu_geta (ci := 12) (N := 153) fX12_1183 (by decide) so_1079.is (by decide) (c := 1151) (by decide) dX12_deleteScript_112 ?_
    refine uu_iconst (v := 4) dX12_deleteScript_115 (by decide) ?_
    refine uu_iload_n dX12_deleteScript_116 rfl (List.mem_of_getElem? (i := 1) rfl) ?_
    refine uu_imul dX12_deleteScript_117 ?_
    refine uu_iload dX12_deleteScript_118 (List.mem_of_getElem? (i := 2) rfl) ?_
    refine uu_iadd dX12_deleteScript_120 ?_
    refine uu_iconst (v := 1) dX12_deleteScript_121 (by decide) ?_
    refine uu_iadd dX12_deleteScript_122 ?_
    obtain ⟨v7, e8, h⟩ := uu_ob h
    refine uu_iald e8 dX12_deleteScript_123 ?_
    obtain ⟨s9, e10, h⟩ := uu_ob h
    refine uu_iast e10 dX12_deleteScript_124 ?_
    refine uu_iinc (v := x4 + 1) dX12_deleteScript_125 (k := 2) rfl rfl (by decide) rfl ?_
    refine uu_goto (tgt := 90) dX12_deleteScript_128 (by decide) ?_
    refine uu_lv [1, 2, 0] (lv' := [(0, .ref (B + 1079)), (1, .int x1), (4, .int (x4 + 1))]) rfl ?_
    exact hK90 x1 (x4 + 1) _ _ h
def fn_X12_deleteScript_90  : Nat → Int32 → Int32 → uS → Option (uS × Bool)
  | 0 => fun _ _ _ => none
  | n + 1 => fb_X12_deleteScript_90 (fn_X12_deleteScript_90  n)
set_option maxRecDepth 100000 in
set_option maxHeartbeats 4000000 in
theorem xn_X12_deleteScript_90 {l : Launch} {D : va_G} {A : Nat → ClassId} {B : Nat} {Z : State → Heap → Prop} {vF : Value} (uk : uK B Z vF)   : ∀ (n : Nat) (x1 : Int32) (x4 : Int32)  (s : uS) (r : (uS × Bool)), fn_X12_deleteScript_90  n x1 x4 s = some r → GU l D A B Z mX12_deleteScript 7 (r.1, some (.int (bI r.2))) s 90 [(0, .ref (B + 1079)), (1, .int x1), (4, .int x4)] [] := by
  intro n
  induction n with
  | zero => intro x1 x4 s r h
            cases h
  | succ n ih => intro x1 x4 s r h
                 exact xb_X12_deleteScript_90 uk ih  h
def fb_X12_deleteScript_35  (x1 : Int32) (x2 : Int32) (bs0 : Bool) (s : uS) : Option (uS × Bool) := if x2 < 0 then (fb_X12_deleteScript_44 x1 bs0 s) else (if bs0 = true then (fb_X12_deleteScript_44 x1 bs0 s) else ((fn_X12_commit s).bind fun r3 => if r3.2 = true then ((iget 20 r3.1 1149 x1).bind fun v6 => (iput 20 r3.1 1149 x1 (v6 - 1)).bind fun s8 => fn_X12_deleteScript_90 uFu x1 x2 s8) else (some (r3.1, false))))
set_option maxRecDepth 100000 in
set_option maxHeartbeats 4000000 in
theorem xb_X12_deleteScript_35 {l : Launch} {D : va_G} {A : Nat → ClassId} {B : Nat} {Z : State → Heap → Prop} {vF : Value} (uk : uK B Z vF)   {x1 : Int32} {x2 : Int32} {bs0 : Bool} {s : uS} {r : (uS × Bool)}  (h : fb_X12_deleteScript_35  x1 x2 bs0 s = some r) : GU l D A B Z mX12_deleteScript 7 (r.1, some (.int (bI r.2))) s 35 [(0, .ref (B + 1079)), (1, .int x1), (2, .int x2)] [.int (bI bs0)] := by
  unfold fb_X12_deleteScript_35 at h
  refine uu_istore_n dX12_deleteScript_35 rfl (by decide) rfl ?_
  refine uu_iload_n dX12_deleteScript_36 rfl (List.mem_of_getElem? (i := 3) rfl) ?_
  refine uu_if_lt (tgt := 44) dX12_deleteScript_37 (by decide) (fun c1 => ?_) (fun c1 => ?_)
  · replace h := uu_pos c1 h
    refine uu_lv [1, 2, 0] (lv' := [(0, .ref (B + 1079)), (1, .int x1), (3, .int (bI bs0))]) rfl ?_
    exact xb_X12_deleteScript_44 uk  h
  · replace h := uu_neg c1 h
    refine uu_iload_n dX12_deleteScript_40 rfl (List.mem_of_getElem? (i := 0) rfl) ?_
    refine uu_ifb_eq (tgt := 64) dX12_deleteScript_41 (by decide) (fun c2 => ?_) (fun c2 => ?_)
    · replace h := uu_neg c2 h
      refine uu_aload_n dX12_deleteScript_64 rfl (List.mem_of_getElem? (i := 1) rfl) ?_
      obtain ⟨r3, e4, h⟩ := uu_ob h
      refine uu_cv (d1 := 1) (k := 1079) (ci := 12) (T := TX12) (N := 153) (As := []) (st := []) (st' := [.int (bI r3.2)]) (xc_X12_commit uk  e4) so_1079.is (by decide) rfl kX12_commit lX12_993 sX12_commit (by decide) (Nat.le_of_ble_eq_true rfl) dX12_deleteScript_65 rfl ?_
      refine uu_ifb_ne (tgt := 73) dX12_deleteScript_68 (by decide) (fun c5 => ?_) (fun c5 => ?_)
      · replace h := uu_pos c5 h
        refine uu_aload_n dX12_deleteScript_73 rfl (List.mem_of_getElem? (i := 1) rfl) ?_
        refine uu_geta (ci := 12) (N := 153) fX12_1180 (by decide) so_1079.is (by decide) (c := 1149) (by decide) dX12_deleteScript_74 ?_
        refine uu_iload_n dX12_deleteScript_77 rfl (List.mem_of_getElem? (i := 2) rfl) ?_
        refine uu_aload_n dX12_deleteScript_78 rfl (List.mem_of_getElem? (i := 1) rfl) ?_
        refine uu_geta (ci := 12) (N := 153) fX12_1180 (by decide) so_1079.is (by decide) (c := 1149) (by decide) dX12_deleteScript_79 ?_
        refine uu_iload_n dX12_deleteScript_82 rfl (List.mem_of_getElem? (i := 2) rfl) ?_
        obtain ⟨v6, e7, h⟩ := uu_ob h
        refine uu_iald e7 dX12_deleteScript_83 ?_
        refine uu_iconst (v := 1) dX12_deleteScript_84 (by decide) ?_
        refine uu_isub dX12_deleteScript_85 ?_
        obtain ⟨s8, e9, h⟩ := uu_ob h
        refine uu_iast e9 dX12_deleteScript_86 ?_
        refine uu_iload_n dX12_deleteScript_87 rfl (List.mem_of_getElem? (i := 3) rfl) ?_
        refine uu_istore dX12_deleteScript_88 (by decide) rfl ?_
        refine uu_lv [2, 3, 0] (lv' := [(0, .ref (B + 1079)), (1, .int x1), (4, .int x2)]) rfl ?_
        exact xn_X12_deleteScript_90 uk  _ _ _ _ _ h
      · replace h := uu_neg c5 h
        refine uu_iconst (v := 0) dX12_deleteScript_71 (by decide) ?_
        have hr := Option.some.inj h
        subst hr
        exact uu_zret (x := bI false) rfl (bI_z _) dX12_deleteScript_72
    · replace h := uu_pos c2 h
      refine uu_lv [1, 2, 0] (lv' := [(0, .ref (B + 1079)), (1, .int x1), (3, .int (bI bs0))]) rfl ?_
      exact xb_X12_deleteScript_44 uk  h
def fn_X12_deleteScript (x1 : Int32) (s : uS) : Option (uS × Bool) := (fn_X12_scriptOf x1 0 s).bind fun v1 => if v1 < 0 then (fb_X12_deleteScript_35 x1 v1 false s) else ((iget 20 s 1150 x1).bind fun v4 => (iget 20 s 1151 (((4 : Int32) * x1) + v1)).bind fun v6 => if v4 = v6 then (fb_X12_deleteScript_35 x1 v1 true s) else (fb_X12_deleteScript_35 x1 v1 false s))
set_option maxRecDepth 100000 in
set_option maxHeartbeats 4000000 in
theorem xc_X12_deleteScript {l : Launch} {D : va_G} {A : Nat → ClassId} {B : Nat} {Z : State → Heap → Prop} {vF : Value} (uk : uK B Z vF) {x1 : Int32} {s : uS} {r : (uS × Bool)}  (h : fn_X12_deleteScript x1 s = some r) : CU l D A B Z 7 mX12_deleteScript s [.ref (B + 1079), .int x1] (r.1, some (.int (bI r.2))) := by
  unfold fn_X12_deleteScript at h
  refine cu_of rfl uk.1.1 (Nat.le_of_ble_eq_true rfl) ?_
  show GU _ _ _ _ _ _ _ _ _ 0 [(0, .ref (B + 1079)), (1, .int x1)] []
  refine uu_aload_n dX12_deleteScript_0 rfl (List.mem_of_getElem? (i := 0) rfl) ?_
  refine uu_iload_n dX12_deleteScript_1 rfl (List.mem_of_getElem? (i := 1) rfl) ?_
  refine uu_iconst (v := 0) dX12_deleteScript_2 (by decide) ?_
  obtain ⟨v1, e2, h⟩ := uu_ob h
  refine uu_cv (d1 := 1) (k := 1079) (ci := 12) (T := TX12) (N := 153) (As := [.int x1, .int 0]) (st := []) (st' := [.int v1]) (xc_X12_scriptOf uk  e2) so_1079.is (by decide) rfl kX12_scriptOf lX12_1336 sX12_scriptOf (by decide) (Nat.le_of_ble_eq_true rfl) dX12_deleteScript_3 rfl ?_
  refine uu_istore_n dX12_deleteScript_6 rfl (by decide) rfl ?_
  refine uu_iload_n dX12_deleteScript_7 rfl (List.mem_of_getElem? (i := 0) rfl) ?_
  refine uu_if_lt (tgt := 34) dX12_deleteScript_8 (by decide) (fun c3 => ?_) (fun c3 => ?_)
  · replace h := uu_pos c3 h
    refine uu_iconst (v := 0) dX12_deleteScript_34 (by decide) ?_
    refine uu_lv [1, 2, 0] (lv' := [(0, .ref (B + 1079)), (1, .int x1), (2, .int v1)]) rfl ?_
    exact xb_X12_deleteScript_35 uk  h
  · replace h := uu_neg c3 h
    refine uu_aload_n dX12_deleteScript_11 rfl (List.mem_of_getElem? (i := 1) rfl) ?_
    refine uu_geta (ci := 12) (N := 153) fX12_926 (by decide) so_1079.is (by decide) (c := 1150) (by decide) dX12_deleteScript_12 ?_
    refine uu_iload_n dX12_deleteScript_15 rfl (List.mem_of_getElem? (i := 2) rfl) ?_
    obtain ⟨v4, e5, h⟩ := uu_ob h
    refine uu_iald e5 dX12_deleteScript_16 ?_
    refine uu_aload_n dX12_deleteScript_17 rfl (List.mem_of_getElem? (i := 1) rfl) ?_
    refine uu_geta (ci := 12) (N := 153) fX12_1183 (by decide) so_1079.is (by decide) (c := 1151) (by decide) dX12_deleteScript_18 ?_
    refine uu_iconst (v := 4) dX12_deleteScript_21 (by decide) ?_
    refine uu_iload_n dX12_deleteScript_22 rfl (List.mem_of_getElem? (i := 2) rfl) ?_
    refine uu_imul dX12_deleteScript_23 ?_
    refine uu_iload_n dX12_deleteScript_24 rfl (List.mem_of_getElem? (i := 0) rfl) ?_
    refine uu_iadd dX12_deleteScript_25 ?_
    obtain ⟨v6, e7, h⟩ := uu_ob h
    refine uu_iald e7 dX12_deleteScript_26 ?_
    refine uu_icmp_ne (tgt := 34) dX12_deleteScript_27 (by decide) (fun c8 => ?_) (fun c8 => ?_)
    · replace h := uu_neg c8 h
      refine uu_iconst (v := 0) dX12_deleteScript_34 (by decide) ?_
      refine uu_lv [1, 2, 0] (lv' := [(0, .ref (B + 1079)), (1, .int x1), (2, .int v1)]) rfl ?_
      exact xb_X12_deleteScript_35 uk  h
    · replace h := uu_pos c8 h
      refine uu_iconst (v := 1) dX12_deleteScript_30 (by decide) ?_
      refine uu_goto (tgt := 35) dX12_deleteScript_31 (by decide) ?_
      refine uu_lv [1, 2, 0] (lv' := [(0, .ref (B + 1079)), (1, .int x1), (2, .int v1)]) rfl ?_
      exact xb_X12_deleteScript_35 uk  h
abbrev mX12_renameScript : hM := (yX12_renameScript, cX12_renameScript, 4, (some (.boolean)))
theorem dX12_renameScript_37 : decode cX12_renameScript 37 = .ok (.invokevirtual 1304, 3) := by decide +kernel
theorem dX12_renameScript_40 : decode cX12_renameScript 40 = .ok (.iconst 1, 1) := by decide +kernel
theorem dX12_renameScript_41 : decode cX12_renameScript 41 = .ok (.ireturn, 1) := by decide +kernel
theorem dX12_renameScript_22 : decode cX12_renameScript 22 = .ok (.aload_n 0, 1) := by decide +kernel
theorem dX12_renameScript_23 : decode cX12_renameScript 23 = .ok (.iload_n 1, 1) := by decide +kernel
theorem dX12_renameScript_24 : decode cX12_renameScript 24 = .ok (.iload_n 2, 1) := by decide +kernel
theorem dX12_renameScript_25 : decode cX12_renameScript 25 = .ok (.ifCond .ge 9, 3) := by decide +kernel
theorem dX12_renameScript_34 : decode cX12_renameScript 34 = .ok (.ldc_w 486, 3) := by decide +kernel
theorem dX12_renameScript_28 : decode cX12_renameScript 28 = .ok (.ldc_w 1370, 3) := by decide +kernel
theorem dX12_renameScript_31 : decode cX12_renameScript 31 = .ok (.goto 6, 3) := by decide +kernel
theorem dX12_renameScript_0 : decode cX12_renameScript 0 = .ok (.aload_n 0, 1) := by decide +kernel
theorem dX12_renameScript_1 : decode cX12_renameScript 1 = .ok (.iload_n 1, 1) := by decide +kernel
theorem dX12_renameScript_2 : decode cX12_renameScript 2 = .ok (.iconst 0, 1) := by decide +kernel
theorem dX12_renameScript_3 : decode cX12_renameScript 3 = .ok (.invokevirtual 1336, 3) := by decide +kernel
theorem dX12_renameScript_6 : decode cX12_renameScript 6 = .ok (.istore_n 2, 1) := by decide +kernel
theorem dX12_renameScript_7 : decode cX12_renameScript 7 = .ok (.aload_n 0, 1) := by decide +kernel
theorem dX12_renameScript_8 : decode cX12_renameScript 8 = .ok (.iload_n 1, 1) := by decide +kernel
theorem dX12_renameScript_9 : decode cX12_renameScript 9 = .ok (.iconst 1, 1) := by decide +kernel
theorem dX12_renameScript_10 : decode cX12_renameScript 10 = .ok (.invokevirtual 1336, 3) := by decide +kernel
theorem dX12_renameScript_13 : decode cX12_renameScript 13 = .ok (.istore_n 3, 1) := by decide +kernel
theorem dX12_renameScript_14 : decode cX12_renameScript 14 = .ok (.iload_n 2, 1) := by decide +kernel
theorem dX12_renameScript_15 : decode cX12_renameScript 15 = .ok (.ifCond .lt 7, 3) := by decide +kernel
theorem dX12_renameScript_18 : decode cX12_renameScript 18 = .ok (.iload_n 3, 1) := by decide +kernel
theorem dX12_renameScript_19 : decode cX12_renameScript 19 = .ok (.ifCond .lt 23, 3) := by decide +kernel
theorem dX12_renameScript_42 : decode cX12_renameScript 42 = .ok (.aload_n 0, 1) := by decide +kernel
theorem dX12_renameScript_43 : decode cX12_renameScript 43 = .ok (.invokevirtual 993, 3) := by decide +kernel
theorem dX12_renameScript_46 : decode cX12_renameScript 46 = .ok (.ifCond .ne 5, 3) := by decide +kernel
theorem dX12_renameScript_51 : decode cX12_renameScript 51 = .ok (.aload_n 0, 1) := by decide +kernel
theorem dX12_renameScript_52 : decode cX12_renameScript 52 = .ok (.iload_n 1, 1) := by decide +kernel
theorem dX12_renameScript_53 : decode cX12_renameScript 53 = .ok (.aload_n 0, 1) := by decide +kernel
theorem dX12_renameScript_54 : decode cX12_renameScript 54 = .ok (.getfield 1183, 3) := by decide +kernel
theorem dX12_renameScript_57 : decode cX12_renameScript 57 = .ok (.iconst 4, 1) := by decide +kernel
theorem dX12_renameScript_58 : decode cX12_renameScript 58 = .ok (.iload_n 1, 1) := by decide +kernel
theorem dX12_renameScript_59 : decode cX12_renameScript 59 = .ok (.imul, 1) := by decide +kernel
theorem dX12_renameScript_60 : decode cX12_renameScript 60 = .ok (.iload_n 2, 1) := by decide +kernel
theorem dX12_renameScript_61 : decode cX12_renameScript 61 = .ok (.iadd, 1) := by decide +kernel
theorem dX12_renameScript_62 : decode cX12_renameScript 62 = .ok (.iaload, 1) := by decide +kernel
theorem dX12_renameScript_63 : decode cX12_renameScript 63 = .ok (.iconst 1, 1) := by decide +kernel
theorem kX12_nameScript : h_ml mX12_nameScript 3 := ⟨h_t11 164 rfl rfl, h_t1 16 rfl rfl, ⟨by decide, by decide, by decide +kernel⟩, by decide⟩
theorem lX12_1364 : Cond.methodLink RX12 1364 mX12_nameScript.1 ∈ lw_g := h_t11 161 rfl rfl
theorem sX12_nameScript : Cond.instanceMethod mX12_nameScript.1 ∈ lw_g ∧ Cond.selects mX12_nameScript.1.cls mX12_nameScript.1 mX12_nameScript.1 ∈ lw_g := ⟨h_t11 163 rfl rfl, h_ins 279 rfl⟩
theorem dX12_renameScript_64 : decode cX12_renameScript 64 = .ok (.invokevirtual 1364, 3) := by decide +kernel
theorem dX12_renameScript_67 : decode cX12_renameScript 67 = .ok (.aload_n 0, 1) := by decide +kernel
theorem dX12_renameScript_68 : decode cX12_renameScript 68 = .ok (.iload_n 1, 1) := by decide +kernel
theorem dX12_renameScript_69 : decode cX12_renameScript 69 = .ok (.ldc_w 1334, 3) := by decide +kernel
theorem dX12_renameScript_72 : decode cX12_renameScript 72 = .ok (.invokevirtual 974, 3) := by decide +kernel
theorem dX12_renameScript_75 : decode cX12_renameScript 75 = .ok (.iconst 1, 1) := by decide +kernel
theorem dX12_renameScript_76 : decode cX12_renameScript 76 = .ok (.ireturn, 1) := by decide +kernel
theorem dX12_renameScript_49 : decode cX12_renameScript 49 = .ok (.iconst 0, 1) := by decide +kernel
theorem dX12_renameScript_50 : decode cX12_renameScript 50 = .ok (.ireturn, 1) := by decide +kernel
def fb_X12_renameScript_37  (ws0 : List Nat) (xs1 : Int32) (s : uS) : Option (uS × Bool) := (fn_X12_no xs1 ws0 s).bind fun s1 => some (s1, true)
set_option maxRecDepth 100000 in
set_option maxHeartbeats 4000000 in
theorem xb_X12_renameScript_37 {l : Launch} {D : va_G} {A : Nat → ClassId} {B : Nat} {Z : State → Heap → Prop} {vF : Value} (uk : uK B Z vF)   {ws0 : List Nat} {xs1 : Int32} {s : uS} {r : (uS × Bool)} {qws0 pws0 : Nat} (hws0 : uStr B Z qws0 pws0 ws0) (h : fb_X12_renameScript_37  ws0 xs1 s = some r) : GU l D A B Z mX12_renameScript 7 (r.1, some (.int (bI r.2))) s 37 [] [.ref qws0, .int xs1, .ref (B + 1079)] := by
  unfold fb_X12_renameScript_37 at h
  obtain ⟨s1, e2, h⟩ := uu_ob h
  refine uu_cv (d1 := 6) (k := 1079) (ci := 12) (T := TX12) (N := 153) (As := [.int xs1, .ref qws0]) (st := []) (st' := []) (xc_X12_no uk hws0 e2) so_1079.is (by decide) rfl kX12_no lX12_1304 sX12_no (by decide) (Nat.le_of_ble_eq_true rfl) dX12_renameScript_37 rfl ?_
  refine uu_iconst (v := 1) dX12_renameScript_40 (by decide) ?_
  have hr := Option.some.inj h
  subst hr
  exact uu_zret (x := bI true) rfl (bI_z _) dX12_renameScript_41
def fb_X12_renameScript_22  (x1 : Int32) (x2 : Int32) (s : uS) : Option (uS × Bool) := if 0 ≤ x2 then (fb_X12_renameScript_37 kW_103 x1 s) else (fb_X12_renameScript_37 kW_207 x1 s)
set_option maxRecDepth 100000 in
set_option maxHeartbeats 4000000 in
theorem xb_X12_renameScript_22 {l : Launch} {D : va_G} {A : Nat → ClassId} {B : Nat} {Z : State → Heap → Prop} {vF : Value} (uk : uK B Z vF)   {x1 : Int32} {x2 : Int32} {s : uS} {r : (uS × Bool)}  (h : fb_X12_renameScript_22  x1 x2 s = some r) : GU l D A B Z mX12_renameScript 7 (r.1, some (.int (bI r.2))) s 22 [(0, .ref (B + 1079)), (1, .int x1), (2, .int x2)] [] := by
  unfold fb_X12_renameScript_22 at h
  refine uu_aload_n dX12_renameScript_22 rfl (List.mem_of_getElem? (i := 0) rfl) ?_
  refine uu_iload_n dX12_renameScript_23 rfl (List.mem_of_getElem? (i := 1) rfl) ?_
  refine uu_iload_n dX12_renameScript_24 rfl (List.mem_of_getElem? (i := 2) rfl) ?_
  refine uu_if_ge (tgt := 34) dX12_renameScript_25 (by decide) (fun c1 => ?_) (fun c1 => ?_)
  · replace h := uu_pos c1 h
    obtain ⟨cq2, cp2, cv2, cw2⟩ := uk.2.1 103 _ rfl
    refine uu_ldcwS cv2 dX12_renameScript_34 ?_
    refine uu_lv [] (lv' := []) rfl ?_
    exact xb_X12_renameScript_37 uk cw2 h
  · replace h := uu_neg c1 h
    obtain ⟨cq3, cp3, cv3, cw3⟩ := uk.2.1 207 _ rfl
    refine uu_ldcwS cv3 dX12_renameScript_28 ?_
    refine uu_goto (tgt := 37) dX12_renameScript_31 (by decide) ?_
    refine uu_lv [] (lv' := []) rfl ?_
    exact xb_X12_renameScript_37 uk cw3 h
def fn_X12_renameScript (x1 : Int32) (s : uS) : Option (uS × Bool) := (fn_X12_scriptOf x1 0 s).bind fun v1 => (fn_X12_scriptOf x1 1 s).bind fun v3 => if v1 < 0 then (fb_X12_renameScript_22 x1 v1 s) else (if v3 < 0 then ((fn_X12_commit s).bind fun r7 => if r7.2 = true then ((iget 20 r7.1 1151 (((4 : Int32) * x1) + v1)).bind fun v10 => (fn_X12_nameScript x1 v10 1 r7.1).bind fun s12 => (fn_X12_line x1 kW_204 s12).bind fun s15 => some (s15, true)) else (some (r7.1, false))) else (fb_X12_renameScript_22 x1 v1 s))
set_option maxRecDepth 100000 in
set_option maxHeartbeats 4000000 in
theorem xc_X12_renameScript {l : Launch} {D : va_G} {A : Nat → ClassId} {B : Nat} {Z : State → Heap → Prop} {vF : Value} (uk : uK B Z vF) {x1 : Int32} {s : uS} {r : (uS × Bool)}  (h : fn_X12_renameScript x1 s = some r) : CU l D A B Z 7 mX12_renameScript s [.ref (B + 1079), .int x1] (r.1, some (.int (bI r.2))) := by
  unfold fn_X12_renameScript at h
  refine cu_of rfl uk.1.1 (Nat.le_of_ble_eq_true rfl) ?_
  show GU _ _ _ _ _ _ _ _ _ 0 [(0, .ref (B + 1079)), (1, .int x1)] []
  refine uu_aload_n dX12_renameScript_0 rfl (List.mem_of_getElem? (i := 0) rfl) ?_
  refine uu_iload_n dX12_renameScript_1 rfl (List.mem_of_getElem? (i := 1) rfl) ?_
  refine uu_iconst (v := 0) dX12_renameScript_2 (by decide) ?_
  obtain ⟨v1, e2, h⟩ := uu_ob h
  refine uu_cv (d1 := 1) (k := 1079) (ci := 12) (T := TX12) (N := 153) (As := [.int x1, .int 0]) (st := []) (st' := [.int v1]) (xc_X12_scriptOf uk  e2) so_1079.is (by decide) rfl kX12_scriptOf lX12_1336 sX12_scriptOf (by decide) (Nat.le_of_ble_eq_true rfl) dX12_renameScript_3 rfl ?_
  refine uu_istore_n dX12_renameScript_6 rfl (by decide) rfl ?_
  refine uu_aload_n dX12_renameScript_7 rfl (List.mem_of_getElem? (i := 1) rfl) ?_
  refine uu_iload_n dX12_renameScript_8 rfl (List.mem_of_getElem? (i := 2) rfl) ?_
  refine uu_iconst (v := 1) dX12_renameScript_9 (by decide) ?_
  obtain ⟨v3, e4, h⟩ := uu_ob h
  refine uu_cv (d1 := 1) (k := 1079) (ci := 12) (T := TX12) (N := 153) (As := [.int x1, .int 1]) (st := []) (st' := [.int v3]) (xc_X12_scriptOf uk  e4) so_1079.is (by decide) rfl kX12_scriptOf lX12_1336 sX12_scriptOf (by decide) (Nat.le_of_ble_eq_true rfl) dX12_renameScript_10 rfl ?_
  refine uu_istore_n dX12_renameScript_13 rfl (by decide) rfl ?_
  refine uu_iload_n dX12_renameScript_14 rfl (List.mem_of_getElem? (i := 1) rfl) ?_
  refine uu_if_lt (tgt := 22) dX12_renameScript_15 (by decide) (fun c5 => ?_) (fun c5 => ?_)
  · replace h := uu_pos c5 h
    refine uu_lv [2, 3, 1] (lv' := [(0, .ref (B + 1079)), (1, .int x1), (2, .int v1)]) rfl ?_
    exact xb_X12_renameScript_22 uk  h
  · replace h := uu_neg c5 h
    refine uu_iload_n dX12_renameScript_18 rfl (List.mem_of_getElem? (i := 0) rfl) ?_
    refine uu_if_lt (tgt := 42) dX12_renameScript_19 (by decide) (fun c6 => ?_) (fun c6 => ?_)
    · replace h := uu_pos c6 h
      refine uu_aload_n dX12_renameScript_42 rfl (List.mem_of_getElem? (i := 2) rfl) ?_
      obtain ⟨r7, e8, h⟩ := uu_ob h
      refine uu_cv (d1 := 1) (k := 1079) (ci := 12) (T := TX12) (N := 153) (As := []) (st := []) (st' := [.int (bI r7.2)]) (xc_X12_commit uk  e8) so_1079.is (by decide) rfl kX12_commit lX12_993 sX12_commit (by decide) (Nat.le_of_ble_eq_true rfl) dX12_renameScript_43 rfl ?_
      refine uu_ifb_ne (tgt := 51) dX12_renameScript_46 (by decide) (fun c9 => ?_) (fun c9 => ?_)
      · replace h := uu_pos c9 h
        refine uu_aload_n dX12_renameScript_51 rfl (List.mem_of_getElem? (i := 2) rfl) ?_
        refine uu_iload_n dX12_renameScript_52 rfl (List.mem_of_getElem? (i := 3) rfl) ?_
        refine uu_aload_n dX12_renameScript_53 rfl (List.mem_of_getElem? (i := 2) rfl) ?_
        refine uu_geta (ci := 12) (N := 153) fX12_1183 (by decide) so_1079.is (by decide) (c := 1151) (by decide) dX12_renameScript_54 ?_
        refine uu_iconst (v := 4) dX12_renameScript_57 (by decide) ?_
        refine uu_iload_n dX12_renameScript_58 rfl (List.mem_of_getElem? (i := 3) rfl) ?_
        refine uu_imul dX12_renameScript_59 ?_
        refine uu_iload_n dX12_renameScript_60 rfl (List.mem_of_getElem? (i := 1) rfl) ?_
        refine uu_iadd dX12_renameScript_61 ?_
        obtain ⟨v10, e11, h⟩ := uu_ob h
        refine uu_iald e11 dX12_renameScript_62 ?_
        refine uu_iconst (v := 1) dX12_renameScript_63 (by decide) ?_
        obtain ⟨s12, e13, h⟩ := uu_ob h
        refine uu_cv (d1 := 1) (k := 1079) (ci := 12) (T := TX12) (N := 153) (As := [.int x1, .int v10, .int 1]) (st := []) (st' := []) (xc_X12_nameScript uk  e13) so_1079.is (by decide) rfl kX12_nameScript lX12_1364 sX12_nameScript (by decide) (Nat.le_of_ble_eq_true rfl) dX12_renameScript_64 rfl ?_
        refine uu_aload_n dX12_renameScript_67 rfl (List.mem_of_getElem? (i := 2) rfl) ?_
        refine uu_iload_n dX12_renameScript_68 rfl (List.mem_of_getElem? (i := 3) rfl) ?_
        obtain ⟨cq14, cp14, cv14, cw14⟩ := uk.2.1 204 _ rfl
        refine uu_ldcwS cv14 dX12_renameScript_69 ?_
        obtain ⟨s15, e16, h⟩ := uu_ob h
        refine uu_cv (d1 := 5) (k := 1079) (ci := 12) (T := TX12) (N := 153) (As := [.int x1, .ref cq14]) (st := []) (st' := []) (xc_X12_line uk cw14 e16) so_1079.is (by decide) rfl kX12_line lX12_974 sX12_line (by decide) (Nat.le_of_ble_eq_true rfl) dX12_renameScript_72 rfl ?_
        refine uu_iconst (v := 1) dX12_renameScript_75 (by decide) ?_
        have hr := Option.some.inj h
        subst hr
        exact uu_zret (x := bI true) rfl (bI_z _) dX12_renameScript_76
      · replace h := uu_neg c9 h
        refine uu_iconst (v := 0) dX12_renameScript_49 (by decide) ?_
        have hr := Option.some.inj h
        subst hr
        exact uu_zret (x := bI false) rfl (bI_z _) dX12_renameScript_50
    · replace h := uu_neg c6 h
      refine uu_lv [2, 3, 1] (lv' := [(0, .ref (B + 1079)), (1, .int x1), (2, .int v1)]) rfl ?_
      exact xb_X12_renameScript_22 uk  h
def fn_X12_tick  (s : uS) : Option (uS × Int32) := if (s.I 1079 0) = 0 then (some (s, (-1 : Int32))) else ((fn_X12_commit s).bind fun r2 => if r2.2 = true then (some (wI r2.1 1079 1 ((r2.1.I 1079 1) + 1), (wI r2.1 1079 1 ((r2.1.I 1079 1) + 1)).I 1079 1)) else (some (r2.1, (-1 : Int32))))
set_option maxRecDepth 100000 in
set_option maxHeartbeats 4000000 in
theorem xc_X12_tick {l : Launch} {D : va_G} {A : Nat → ClassId} {B : Nat} {Z : State → Heap → Prop} {vF : Value} (uk : uK B Z vF)  {s : uS} {r : (uS × Int32)}  (h : fn_X12_tick  s = some r) : CU l D A B Z 2 mX12_tick s [.ref (B + 1079)] (r.1, some (.int r.2)) := by
  unfold fn_X12_tick at h
  refine cu_of rfl uk.1.1 (Nat.le_of_ble_eq_true rfl) ?_
  show GU _ _ _ _ _ _ _ _ _ 0 [(0, .ref (B + 1079))] []
  refine uu_aload_n dX12_tick_0 rfl (List.mem_of_getElem? (i := 0) rfl) ?_
  refine uu_geti (ci := 12) (N := 153) fX12_7 (by decide) so_1079.is (by decide) (by decide) dX12_tick_1 ?_
  refine uu_if_eq (tgt := 14) dX12_tick_4 (by decide) (fun c1 => ?_) (fun c1 => ?_)
  · replace h := uu_pos c1 h
    refine uu_iconst (v := -1) dX12_tick_14 (by decide) ?_
    have hr := Option.some.inj h
    subst hr
    exact uu_iret rfl dX12_tick_15
  · replace h := uu_neg c1 h
    refine uu_aload_n dX12_tick_7 rfl (List.mem_of_getElem? (i := 0) rfl) ?_
    obtain ⟨r2, e3, h⟩ := uu_ob h
    refine uu_cv (d1 := 1) (k := 1079) (ci := 12) (T := TX12) (N := 153) (As := []) (st := []) (st' := [.int (bI r2.2)]) (xc_X12_commit uk  e3) so_1079.is (by decide) rfl kX12_commit lX12_993 sX12_commit (by decide) (Nat.le_of_ble_eq_true rfl) dX12_tick_8 rfl ?_
    refine uu_ifb_ne (tgt := 16) dX12_tick_11 (by decide) (fun c4 => ?_) (fun c4 => ?_)
    · replace h := uu_pos c4 h
      refine uu_aload_n dX12_tick_16 rfl (List.mem_of_getElem? (i := 0) rfl) ?_
      refine uu_aload_n dX12_tick_17 rfl (List.mem_of_getElem? (i := 0) rfl) ?_
      refine uu_geti (ci := 12) (N := 153) fX12_863 (by decide) so_1079.is (by decide) (by decide) dX12_tick_18 ?_
      refine uu_iconst (v := 1) dX12_tick_21 (by decide) ?_
      refine uu_iadd dX12_tick_22 ?_
      refine uu_puti (ft := .int) (ci := 12) (N := 153) fX12_863 ptX12 (Or.inl rfl) (by decide) so_1079.is (by decide) (by decide) (by decide +kernel) rfl rfl dX12_tick_23 ?_
      refine uu_aload_n dX12_tick_26 rfl (List.mem_of_getElem? (i := 0) rfl) ?_
      refine uu_geti (ci := 12) (N := 153) fX12_863 (by decide) so_1079.is (by decide) (by decide) dX12_tick_27 ?_
      have hr := Option.some.inj h
      subst hr
      exact uu_iret rfl dX12_tick_30
    · replace h := uu_neg c4 h
      refine uu_iconst (v := -1) dX12_tick_14 (by decide) ?_
      have hr := Option.some.inj h
      subst hr
      exact uu_iret rfl dX12_tick_15
def fn_X12_cut (x1 : Int32) (s : uS) : Option (uS × Bool) := if x1 < 0 then (some (s, false)) else (if x1 ≤ 1000 then (some (wI s 1079 3 x1, true)) else (some (s, false)))
set_option maxRecDepth 100000 in
set_option maxHeartbeats 4000000 in
theorem xc_X12_cut {l : Launch} {D : va_G} {A : Nat → ClassId} {B : Nat} {Z : State → Heap → Prop} {vF : Value} (uk : uK B Z vF) {x1 : Int32} {s : uS} {r : (uS × Bool)}  (h : fn_X12_cut x1 s = some r) : CU l D A B Z 0 mX12_cut s [.ref (B + 1079), .int x1] (r.1, some (.int (bI r.2))) := by
  unfold fn_X12_cut at h
  refine cu_of rfl uk.1.1 (Nat.le_of_ble_eq_true rfl) ?_
  show GU _ _ _ _ _ _ _ _ _ 0 [(0, .ref (B + 1079)), (1, .int x1)] []
  refine uu_iload_n dX12_cut_0 rfl (List.mem_of_getElem? (i := 1) rfl) ?_
  refine uu_if_lt (tgt := 11) dX12_cut_1 (by decide) (fun c1 => ?_) (fun c1 => ?_)
  · replace h := uu_pos c1 h
    refine uu_iconst (v := 0) dX12_cut_11 (by decide) ?_
    have hr := Option.some.inj h
    subst hr
    exact uu_zret (x := bI false) rfl (bI_z _) dX12_cut_12
  · replace h := uu_neg c1 h
    refine uu_iload_n dX12_cut_4 rfl (List.mem_of_getElem? (i := 1) rfl) ?_
    refine uu_sipush (v := 1000) dX12_cut_5 (by decide) ?_
    refine uu_icmp_le (tgt := 13) dX12_cut_8 (by decide) (fun c2 => ?_) (fun c2 => ?_)
    · replace h := uu_pos c2 h
      refine uu_aload_n dX12_cut_13 rfl (List.mem_of_getElem? (i := 0) rfl) ?_
      refine uu_iload_n dX12_cut_14 rfl (List.mem_of_getElem? (i := 1) rfl) ?_
      refine uu_puti (ft := .int) (ci := 12) (N := 153) fX12_1 ptX12 (Or.inl rfl) (by decide) so_1079.is (by decide) (by decide) (by decide +kernel) rfl rfl dX12_cut_15 ?_
      refine uu_iconst (v := 1) dX12_cut_18 (by decide) ?_
      have hr := Option.some.inj h
      subst hr
      exact uu_zret (x := bI true) rfl (bI_z _) dX12_cut_19
    · replace h := uu_neg c2 h
      refine uu_iconst (v := 0) dX12_cut_11 (by decide) ?_
      have hr := Option.some.inj h
      subst hr
      exact uu_zret (x := bI false) rfl (bI_z _) dX12_cut_12
