abbrev mX12_fails : hM := (yX12_fails, cX12_fails, 2, (some (.boolean)))
theorem dX12_fails_34 : decode cX12_fails 34 = .ok (.istore_n 1, 1) := by decide +kernel
theorem dX12_fails_35 : decode cX12_fails 35 = .ok (.aload_n 0, 1) := by decide +kernel
theorem dX12_fails_36 : decode cX12_fails 36 = .ok (.getfield 787, 3) := by decide +kernel
theorem dX12_fails_39 : decode cX12_fails 39 = .ok (.iconst 4, 1) := by decide +kernel
theorem dX12_fails_40 : decode cX12_fails 40 = .ok (.if_icmp .gt 34, 3) := by decide +kernel
theorem dX12_fails_74 : decode cX12_fails 74 = .ok (.iconst 1, 1) := by decide +kernel
theorem dX12_fails_75 : decode cX12_fails 75 = .ok (.goto 4, 3) := by decide +kernel
theorem dX12_fails_79 : decode cX12_fails 79 = .ok (.ireturn, 1) := by decide +kernel
theorem dX12_fails_43 : decode cX12_fails 43 = .ok (.iload_n 1, 1) := by decide +kernel
theorem dX12_fails_44 : decode cX12_fails 44 = .ok (.ifCond .ne 30, 3) := by decide +kernel
theorem dX12_fails_47 : decode cX12_fails 47 = .ok (.aload_n 0, 1) := by decide +kernel
theorem dX12_fails_48 : decode cX12_fails 48 = .ok (.getfield 758, 3) := by decide +kernel
theorem dX12_fails_51 : decode cX12_fails 51 = .ok (.iconst 1, 1) := by decide +kernel
theorem dX12_fails_52 : decode cX12_fails 52 = .ok (.if_icmp .gt 22, 3) := by decide +kernel
theorem dX12_fails_55 : decode cX12_fails 55 = .ok (.aload_n 0, 1) := by decide +kernel
theorem dX12_fails_56 : decode cX12_fails 56 = .ok (.getfield 796, 3) := by decide +kernel
theorem dX12_fails_59 : decode cX12_fails 59 = .ok (.aload_n 0, 1) := by decide +kernel
theorem dX12_fails_60 : decode cX12_fails 60 = .ok (.getfield 799, 3) := by decide +kernel
theorem dX12_fails_63 : decode cX12_fails 63 = .ok (.iaload, 1) := by decide +kernel
theorem dX12_fails_64 : decode cX12_fails 64 = .ok (.aload_n 0, 1) := by decide +kernel
theorem kX12_newBoxes : h_ml mX12_newBoxes 0 := ⟨h_t10 27 rfl rfl, h_t1 16 rfl rfl, ⟨by decide, by decide, by decide +kernel⟩, by decide⟩
theorem lX12_944 : Cond.methodLink RX12 944 mX12_newBoxes.1 ∈ lw_g := h_t10 24 rfl rfl
theorem sX12_newBoxes : Cond.instanceMethod mX12_newBoxes.1 ∈ lw_g ∧ Cond.selects mX12_newBoxes.1.cls mX12_newBoxes.1 mX12_newBoxes.1 ∈ lw_g := ⟨h_t10 26 rfl rfl, h_ins 204 rfl⟩
theorem dX12_fails_65 : decode cX12_fails 65 = .ok (.invokevirtual 944, 3) := by decide +kernel
theorem dX12_fails_68 : decode cX12_fails 68 = .ok (.iadd, 1) := by decide +kernel
theorem dX12_fails_69 : decode cX12_fails 69 = .ok (.bipush 6, 2) := by decide +kernel
theorem dX12_fails_71 : decode cX12_fails 71 = .ok (.if_icmp .le 7, 3) := by decide +kernel
theorem dX12_fails_78 : decode cX12_fails 78 = .ok (.iconst 0, 1) := by decide +kernel
theorem dX12_fails_21 : decode cX12_fails 21 = .ok (.aload_n 0, 1) := by decide +kernel
theorem dX12_fails_22 : decode cX12_fails 22 = .ok (.getfield 752, 3) := by decide +kernel
theorem dX12_fails_25 : decode cX12_fails 25 = .ok (.iconst 1, 1) := by decide +kernel
theorem dX12_fails_26 : decode cX12_fails 26 = .ok (.if_icmp .le 7, 3) := by decide +kernel
theorem dX12_fails_33 : decode cX12_fails 33 = .ok (.iconst 0, 1) := by decide +kernel
theorem dX12_fails_29 : decode cX12_fails 29 = .ok (.iconst 1, 1) := by decide +kernel
theorem dX12_fails_30 : decode cX12_fails 30 = .ok (.goto 4, 3) := by decide +kernel
theorem dX12_fails_0 : decode cX12_fails 0 = .ok (.aload_n 0, 1) := by decide +kernel
theorem dX12_fails_1 : decode cX12_fails 1 = .ok (.getfield 752, 3) := by decide +kernel
theorem dX12_fails_4 : decode cX12_fails 4 = .ok (.ifCond .le 17, 3) := by decide +kernel
theorem dX12_fails_7 : decode cX12_fails 7 = .ok (.aload_n 0, 1) := by decide +kernel
theorem dX12_fails_8 : decode cX12_fails 8 = .ok (.getfield 746, 3) := by decide +kernel
theorem dX12_fails_11 : decode cX12_fails 11 = .ok (.ifCond .ne 18, 3) := by decide +kernel
theorem dX12_fails_14 : decode cX12_fails 14 = .ok (.aload_n 0, 1) := by decide +kernel
theorem dX12_fails_15 : decode cX12_fails 15 = .ok (.getfield 758, 3) := by decide +kernel
theorem dX12_fails_18 : decode cX12_fails 18 = .ok (.ifCond .gt 11, 3) := by decide +kernel
def fb_X12_fails_34  (bs0 : Bool) (s : uS) : Option (uS × Bool) := if (4 : Int32) < (s.I 1079 100) then (some (s, true)) else (if bs0 = true then (some (s, true)) else (if (1 : Int32) < (s.I 1079 104) then (some (s, true)) else ((iget 20 s 1126 (s.I 1079 89)).bind fun v4 => (fn_X12_newBoxes s).bind fun r6 => if (v4 + r6.2) ≤ 6 then (some (r6.1, false)) else (some (r6.1, true)))))
set_option maxRecDepth 100000 in
set_option maxHeartbeats 4000000 in
theorem xb_X12_fails_34 {l : Launch} {D : va_G} {A : Nat → ClassId} {B : Nat} {Z : State → Heap → Prop} {vF : Value} (uk : uK B Z vF)   {bs0 : Bool} {s : uS} {r : (uS × Bool)}  (h : fb_X12_fails_34  bs0 s = some r) : GU l D A B Z mX12_fails 9 (r.1, some (.int (bI r.2))) s 34 [(0, .ref (B + 1079))] [.int (bI bs0)] := by
  unfold fb_X12_fails_34 at h
  refine uu_istore_n dX12_fails_34 rfl (by decide) rfl ?_
  refine uu_aload_n dX12_fails_35 rfl (List.mem_of_getElem? (i := 1) rfl) ?_
  refine uu_geti (ci := 12) (N := 153) fX12_787 (by decide) so_1079.is (by decide) (by decide) dX12_fails_36 ?_
  refine uu_iconst (v := 4) dX12_fails_39 (by decide) ?_
  refine uu_icmp_gt (tgt := 74) dX12_fails_40 (by decide) (fun c1 => ?_) (fun c1 => ?_)
  · replace h := uu_pos c1 h
    refine uu_iconst (v := 1) dX12_fails_74 (by decide) ?_
    refine uu_goto (tgt := 79) dX12_fails_75 (by decide) ?_
    have hr := Option.some.inj h
    subst hr
    exact uu_zret (x := bI true) rfl (bI_z _) dX12_fails_79
  · replace h := uu_neg c1 h
    refine uu_iload_n dX12_fails_43 rfl (List.mem_of_getElem? (i := 0) rfl) ?_
    refine uu_ifb_ne (tgt := 74) dX12_fails_44 (by decide) (fun c2 => ?_) (fun c2 => ?_)
    · replace h := uu_pos c2 h
      refine uu_iconst (v := 1) dX12_fails_74 (by decide) ?_
      refine uu_goto (tgt := 79) dX12_fails_75 (by decide) ?_
      have hr := Option.some.inj h
      subst hr
      exact uu_zret (x := bI true) rfl (bI_z _) dX12_fails_79
    · replace h := uu_neg c2 h
      refine uu_aload_n dX12_fails_47 rfl (List.mem_of_getElem? (i := 1) rfl) ?_
      refine uu_geti (ci := 12) (N := 153) fX12_758 (by decide) so_1079.is (by decide) (by decide) dX12_fails_48 ?_
      refine uu_iconst (v := 1) dX12_fails_51 (by decide) ?_
      refine uu_icmp_gt (tgt := 74) dX12_fails_52 (by decide) (fun c3 => ?_) (fun c3 => ?_)
      · replace h := uu_pos c3 h
        refine uu_iconst (v := 1) dX12_fails_74 (by decide) ?_
        refine uu_goto (tgt := 79) dX12_fails_75 (by decide) ?_
        have hr := Option.some.inj h
        subst hr
        exact uu_zret (x := bI true) rfl (bI_z _) dX12_fails_79
      · replace h := uu_neg c3 h
        refine uu_aload_n dX12_fails_55 rfl (List.mem_of_getElem? (i := 1) rfl) ?_
        refine uu_geta (ci := 12) (N := 153) fX12_796 (by decide) so_1079.is (by decide) (c := 1126) (by decide) dX12_fails_56 ?_
        refine uu_aload_n dX12_fails_59 rfl (List.mem_of_getElem? (i := 1) rfl) ?_
        refine uu_geti (ci := 12) (N := 153) fX12_799 (by decide) so_1079.is (by decide) (by decide) dX12_fails_60 ?_
        obtain ⟨v4, e5, h⟩ := uu_ob h
        refine uu_iald e5 dX12_fails_63 ?_
        refine uu_aload_n dX12_fails_64 rfl (List.mem_of_getElem? (i := 1) rfl) ?_
        obtain ⟨r6, e7, h⟩ := uu_ob h
        refine uu_cv (d1 := 8) (k := 1079) (ci := 12) (T := TX12) (N := 153) (As := []) (st := [.int v4]) (st' := [.int r6.2, .int v4]) (xc_X12_newBoxes uk  e7) so_1079.is (by decide) rfl kX12_newBoxes lX12_944 sX12_newBoxes (by decide) (Nat.le_of_ble_eq_true rfl) dX12_fails_65 rfl ?_
        refine uu_iadd dX12_fails_68 ?_
        refine uu_bipush (v := 6) dX12_fails_69 (by decide) ?_
        refine uu_icmp_le (tgt := 78) dX12_fails_71 (by decide) (fun c8 => ?_) (fun c8 => ?_)
        · replace h := uu_pos c8 h
          refine uu_iconst (v := 0) dX12_fails_78 (by decide) ?_
          have hr := Option.some.inj h
          subst hr
          exact uu_zret (x := bI false) rfl (bI_z _) dX12_fails_79
        · replace h := uu_neg c8 h
          refine uu_iconst (v := 1) dX12_fails_74 (by decide) ?_
          refine uu_goto (tgt := 79) dX12_fails_75 (by decide) ?_
          have hr := Option.some.inj h
          subst hr
          exact uu_zret (x := bI true) rfl (bI_z _) dX12_fails_79
def fb_X12_fails_21   (s : uS) : Option (uS × Bool) := if (s.I 1079 102) ≤ 1 then (fb_X12_fails_34 false s) else (fb_X12_fails_34 true s)
set_option maxRecDepth 100000 in
set_option maxHeartbeats 4000000 in
theorem xb_X12_fails_21 {l : Launch} {D : va_G} {A : Nat → ClassId} {B : Nat} {Z : State → Heap → Prop} {vF : Value} (uk : uK B Z vF)    {s : uS} {r : (uS × Bool)}  (h : fb_X12_fails_21   s = some r) : GU l D A B Z mX12_fails 9 (r.1, some (.int (bI r.2))) s 21 [(0, .ref (B + 1079))] [] := by
  unfold fb_X12_fails_21 at h
  refine uu_aload_n dX12_fails_21 rfl (List.mem_of_getElem? (i := 0) rfl) ?_
  refine uu_geti (ci := 12) (N := 153) fX12_752 (by decide) so_1079.is (by decide) (by decide) dX12_fails_22 ?_
  refine uu_iconst (v := 1) dX12_fails_25 (by decide) ?_
  refine uu_icmp_le (tgt := 33) dX12_fails_26 (by decide) (fun c1 => ?_) (fun c1 => ?_)
  · replace h := uu_pos c1 h
    refine uu_iconst (v := 0) dX12_fails_33 (by decide) ?_
    exact xb_X12_fails_34 uk  h
  · replace h := uu_neg c1 h
    refine uu_iconst (v := 1) dX12_fails_29 (by decide) ?_
    refine uu_goto (tgt := 34) dX12_fails_30 (by decide) ?_
    exact xb_X12_fails_34 uk  h
def fn_X12_fails  (s : uS) : Option (uS × Bool) := if (s.I 1079 102) ≤ 0 then (fb_X12_fails_21 s) else (if (s.I 1079 106) = 0 then (if 0 < (s.I 1079 104) then (fb_X12_fails_34 true s) else (fb_X12_fails_21 s)) else (fb_X12_fails_34 true s))
set_option maxRecDepth 100000 in
set_option maxHeartbeats 4000000 in
theorem xc_X12_fails {l : Launch} {D : va_G} {A : Nat → ClassId} {B : Nat} {Z : State → Heap → Prop} {vF : Value} (uk : uK B Z vF)  {s : uS} {r : (uS × Bool)}  (h : fn_X12_fails  s = some r) : CU l D A B Z 9 mX12_fails s [.ref (B + 1079)] (r.1, some (.int (bI r.2))) := by
  unfold fn_X12_fails at h
  refine cu_of rfl uk.1.1 (Nat.le_of_ble_eq_true rfl) ?_
  show GU _ _ _ _ _ _ _ _ _ 0 [(0, .ref (B + 1079))] []
  refine uu_aload_n dX12_fails_0 rfl (List.mem_of_getElem? (i := 0) rfl) ?_
  refine uu_geti (ci := 12) (N := 153) fX12_752 (by decide) so_1079.is (by decide) (by decide) dX12_fails_1 ?_
  refine uu_if_le (tgt := 21) dX12_fails_4 (by decide) (fun c1 => ?_) (fun c1 => ?_)
  · replace h := uu_pos c1 h
    exact xb_X12_fails_21 uk  h
  · replace h := uu_neg c1 h
    refine uu_aload_n dX12_fails_7 rfl (List.mem_of_getElem? (i := 0) rfl) ?_
    refine uu_geti (ci := 12) (N := 153) fX12_746 (by decide) so_1079.is (by decide) (by decide) dX12_fails_8 ?_
    refine uu_if_ne (tgt := 29) dX12_fails_11 (by decide) (fun c2 => ?_) (fun c2 => ?_)
    · replace h := uu_neg c2 h
      refine uu_iconst (v := 1) dX12_fails_29 (by decide) ?_
      refine uu_goto (tgt := 34) dX12_fails_30 (by decide) ?_
      exact xb_X12_fails_34 uk  h
    · replace h := uu_pos c2 h
      refine uu_aload_n dX12_fails_14 rfl (List.mem_of_getElem? (i := 0) rfl) ?_
      refine uu_geti (ci := 12) (N := 153) fX12_758 (by decide) so_1079.is (by decide) (by decide) dX12_fails_15 ?_
      refine uu_if_gt (tgt := 29) dX12_fails_18 (by decide) (fun c3 => ?_) (fun c3 => ?_)
      · replace h := uu_pos c3 h
        refine uu_iconst (v := 1) dX12_fails_29 (by decide) ?_
        refine uu_goto (tgt := 34) dX12_fails_30 (by decide) ?_
        exact xb_X12_fails_34 uk  h
      · replace h := uu_neg c3 h
        exact xb_X12_fails_21 uk  h
abbrev mX12_copyMail : hM := (yX12_copyMail, cX12_copyMail, 3, none)
theorem dX12_copyMail_2 : decode cX12_copyMail 2 = .ok (.iload_n 2, 1) := by decide +kernel
theorem dX12_copyMail_3 : decode cX12_copyMail 3 = .ok (.aload_n 0, 1) := by decide +kernel
theorem dX12_copyMail_4 : decode cX12_copyMail 4 = .ok (.getfield 75, 3) := by decide +kernel
theorem dX12_copyMail_7 : decode cX12_copyMail 7 = .ok (.if_icmp .ge 19, 3) := by decide +kernel
theorem dX12_copyMail_26 : decode cX12_copyMail 26 = .ok (.aload_n 0, 1) := by decide +kernel
theorem dX12_copyMail_27 : decode cX12_copyMail 27 = .ok (.getfield 578, 3) := by decide +kernel
theorem dX12_copyMail_30 : decode cX12_copyMail 30 = .ok (.iload_n 1, 1) := by decide +kernel
theorem dX12_copyMail_31 : decode cX12_copyMail 31 = .ok (.aload_n 0, 1) := by decide +kernel
theorem dX12_copyMail_32 : decode cX12_copyMail 32 = .ok (.getfield 75, 3) := by decide +kernel
theorem dX12_copyMail_35 : decode cX12_copyMail 35 = .ok (.iastore, 1) := by decide +kernel
theorem dX12_copyMail_36 : decode cX12_copyMail 36 = .ok (.return_, 1) := by decide +kernel
theorem dX12_copyMail_10 : decode cX12_copyMail 10 = .ok (.aload_n 0, 1) := by decide +kernel
theorem dX12_copyMail_11 : decode cX12_copyMail 11 = .ok (.aload_n 0, 1) := by decide +kernel
theorem dX12_copyMail_12 : decode cX12_copyMail 12 = .ok (.getfield 78, 3) := by decide +kernel
theorem dX12_copyMail_15 : decode cX12_copyMail 15 = .ok (.iload_n 2, 1) := by decide +kernel
theorem dX12_copyMail_16 : decode cX12_copyMail 16 = .ok (.iaload, 1) := by decide +kernel
theorem kX12_store : h_ml mX12_store 1 := ⟨h_t10 149 rfl rfl, h_t1 16 rfl rfl, ⟨by decide, by decide, by decide +kernel⟩, by decide⟩
theorem lX12_947 : Cond.methodLink RX12 947 mX12_store.1 ∈ lw_g := h_t10 146 rfl rfl
theorem sX12_store : Cond.instanceMethod mX12_store.1 ∈ lw_g ∧ Cond.selects mX12_store.1.cls mX12_store.1 mX12_store.1 ∈ lw_g := ⟨h_t10 148 rfl rfl, h_ins 230 rfl⟩
theorem dX12_copyMail_17 : decode cX12_copyMail 17 = .ok (.invokevirtual 947, 3) := by decide +kernel
theorem dX12_copyMail_20 : decode cX12_copyMail 20 = .ok (.iinc 2 1, 3) := by decide +kernel
theorem dX12_copyMail_23 : decode cX12_copyMail 23 = .ok (.goto (-21), 3) := by decide +kernel
theorem dX12_copyMail_0 : decode cX12_copyMail 0 = .ok (.iconst 0, 1) := by decide +kernel
theorem dX12_copyMail_1 : decode cX12_copyMail 1 = .ok (.istore_n 2, 1) := by decide +kernel
def fb_X12_copyMail_2 (K2 : Int32 → Int32 → uS → Option uS) (x1 : Int32) (x2 : Int32) (s : uS) : Option uS := if (s.I 1079 13) ≤ x2 then ((iput 20 s 1122 x1 (s.I 1079 13)).bind fun s2 => some s2) else ((iget 20 s 1087 x2).bind fun v4 => (fn_X12_store v4 s).bind fun s6 => K2 x1 (x2 + 1) s6)
set_option maxRecDepth 100000 in
set_option maxHeartbeats 4000000 in
theorem xb_X12_copyMail_2 {l : Launch} {D : va_G} {A : Nat → ClassId} {B : Nat} {Z : State → Heap → Prop} {vF : Value} (uk : uK B Z vF) {K2 : Int32 → Int32 → uS → Option uS} (hK2 : ∀ (x1 : Int32) (x2 : Int32)  (s : uS) (r : uS), K2 x1 x2 s = some r → GU l D A B Z mX12_copyMail 1 (r, none) s 2 [(0, .ref (B + 1079)), (1, .int x1), (2, .int x2)] []) {x1 : Int32} {x2 : Int32} {s : uS} {r : uS}  (h : fb_X12_copyMail_2 K2 x1 x2 s = some r) : GU l D A B Z mX12_copyMail 1 (r, none) s 2 [(0, .ref (B + 1079)), (1, .int x1), (2, .int x2)] [] := by
  unfold fb_X12_copyMail_2 at h
  refine uu_iload_n dX12_copyMail_2 rfl (List.mem_of_getElem? (i := 2) rfl) ?_
  refine uu_aload_n dX12_copyMail_3 rfl (List.mem_of_getElem? (i := 0) rfl) ?_
  refine uu_geti (ci := 12) (N := 153) fX12_75 (by decide) so_1079.is (by decide) (by decide) dX12_copyMail_4 ?_
  refine uu_icmp_ge (tgt := 26) dX12_copyMail_7 (by decide) (fun c1 => ?_) (fun c1 => ?_)
  · replace h := uu_pos c1 h
    refine uu_aload_n dX12_copyMail_26 rfl (List.mem_of_getElem? (i := 0) rfl) ?_
    refine uu_geta (ci := 12) (N := 153) fX12_578 (by decide) so_1079.is (by decide) (c := 1122) (by decide) dX12_copyMail_27 ?_
    refine uu_iload_n dX12_copyMail_30 rfl (List.mem_of_getElem? (i := 1) rfl) ?_
    refine uu_aload_n dX12_copyMail_31 rfl (List.mem_of_getElem? (i := 0) rfl) ?_
    refine uu_geti (ci := 12) (N := 153) fX12_75 (by decide) so_1079.is (by decide) (by decide) dX12_copyMail_32 ?_
    obtain ⟨s2, e3, h⟩ := uu_ob h
    refine uu_iast e3 dX12_copyMail_35 ?_
    have hr := Option.some.inj h
    subst hr
    exact uu_vret rfl dX12_copyMail_36
  · replace h := uu_neg c1 h
    refine uu_aload_n dX12_copyMail_10 rfl (List.mem_of_getElem? (i := 0) rfl) ?_
    refine uu_aload_n dX12_copyMail_11 rfl (List.mem_of_getElem? (i := 0) rfl) ?_
    refine uu_geta (ci := 12) (N := 153) fX12_78 (by decide) so_1079.is (by decide) (c := 1087) (by decide) dX12_copyMail_12 ?_
    refine uu_iload_n dX12_copyMail_15 rfl (List.mem_of_getElem? (i := 2) rfl) ?_
    obtain ⟨v4, e5, h⟩ := uu_ob h
    refine uu_iald e5 dX12_copyMail_16 ?_
    obtain ⟨s6, e7, h⟩ := uu_ob h
    refine uu_cv (d1 := 0) (k := 1079) (ci := 12) (T := TX12) (N := 153) (As := [.int v4]) (st := []) (st' := []) (xc_X12_store uk  e7) so_1079.is (by decide) rfl kX12_store lX12_947 sX12_store (by decide) (Nat.le_of_ble_eq_true rfl) dX12_copyMail_17 rfl ?_
    refine uu_iinc (v := x2 + 1) dX12_copyMail_20 (k := 2) rfl rfl (by decide) rfl ?_
    refine uu_goto (tgt := 2) dX12_copyMail_23 (by decide) ?_
    refine uu_lv [1, 2, 0] (lv' := [(0, .ref (B + 1079)), (1, .int x1), (2, .int (x2 + 1))]) rfl ?_
    exact hK2 x1 (x2 + 1) _ _ h
def fn_X12_copyMail_2  : Nat → Int32 → Int32 → uS → Option uS
  | 0 => fun _ _ _ => none
  | n + 1 => fb_X12_copyMail_2 (fn_X12_copyMail_2  n)
set_option maxRecDepth 100000 in
set_option maxHeartbeats 4000000 in
theorem xn_X12_copyMail_2 {l : Launch} {D : va_G} {A : Nat → ClassId} {B : Nat} {Z : State → Heap → Prop} {vF : Value} (uk : uK B Z vF)   : ∀ (n : Nat) (x1 : Int32) (x2 : Int32)  (s : uS) (r : uS), fn_X12_copyMail_2  n x1 x2 s = some r → GU l D A B Z mX12_copyMail 1 (r, none) s 2 [(0, .ref (B + 1079)), (1, .int x1), (2, .int x2)] [] := by
  intro n
  induction n with
  | zero => intro x1 x2 s r h
            cases h
  | succ n ih => intro x1 x2 s r h
                 exact xb_X12_copyMail_2 uk ih  h
def fn_X12_copyMail (x1 : Int32) (s : uS) : Option uS := fn_X12_copyMail_2 uFu x1 0 s
set_option maxRecDepth 100000 in
set_option maxHeartbeats 4000000 in
theorem xc_X12_copyMail {l : Launch} {D : va_G} {A : Nat → ClassId} {B : Nat} {Z : State → Heap → Prop} {vF : Value} (uk : uK B Z vF) {x1 : Int32} {s : uS} {r : uS}  (h : fn_X12_copyMail x1 s = some r) : CU l D A B Z 1 mX12_copyMail s [.ref (B + 1079), .int x1] (r, none) := by
  unfold fn_X12_copyMail at h
  refine cu_of rfl uk.1.1 (Nat.le_of_ble_eq_true rfl) ?_
  show GU _ _ _ _ _ _ _ _ _ 0 [(0, .ref (B + 1079)), (1, .int x1)] []
  refine uu_iconst (v := 0) dX12_copyMail_0 (by decide) ?_
  refine uu_istore_n dX12_copyMail_1 rfl (by decide) rfl ?_
  refine uu_lv [1, 2, 0] (lv' := [(0, .ref (B + 1079)), (1, .int x1), (2, .int 0)]) rfl ?_
  exact xn_X12_copyMail_2 uk  _ _ _ _ _ h
abbrev mX12_sendTo : hM := (yX12_sendTo, cX12_sendTo, 4, none)
theorem dX12_sendTo_25 : decode cX12_sendTo 25 = .ok (.iload_n 3, 1) := by decide +kernel
theorem dX12_sendTo_26 : decode cX12_sendTo 26 = .ok (.aload_n 0, 1) := by decide +kernel
theorem dX12_sendTo_27 : decode cX12_sendTo 27 = .ok (.getfield 346, 3) := by decide +kernel
theorem dX12_sendTo_30 : decode cX12_sendTo 30 = .ok (.iload_n 1, 1) := by decide +kernel
theorem dX12_sendTo_31 : decode cX12_sendTo 31 = .ok (.iaload, 1) := by decide +kernel
theorem dX12_sendTo_32 : decode cX12_sendTo 32 = .ok (.if_icmp .ge 36, 3) := by decide +kernel
theorem dX12_sendTo_68 : decode cX12_sendTo 68 = .ok (.aload_n 0, 1) := by decide +kernel
theorem dX12_sendTo_69 : decode cX12_sendTo 69 = .ok (.aload_n 0, 1) := by decide +kernel
theorem dX12_sendTo_70 : decode cX12_sendTo 70 = .ok (.getfield 566, 3) := by decide +kernel
theorem dX12_sendTo_73 : decode cX12_sendTo 73 = .ok (.iconst 1, 1) := by decide +kernel
theorem dX12_sendTo_74 : decode cX12_sendTo 74 = .ok (.iadd, 1) := by decide +kernel
theorem dX12_sendTo_75 : decode cX12_sendTo 75 = .ok (.putfield 566, 3) := by decide +kernel
theorem dX12_sendTo_78 : decode cX12_sendTo 78 = .ok (.aload_n 0, 1) := by decide +kernel
theorem dX12_sendTo_79 : decode cX12_sendTo 79 = .ok (.iload_n 2, 1) := by decide +kernel
theorem kX12_copyMail : h_ml mX12_copyMail 1 := ⟨h_t10 145 rfl rfl, h_t1 16 rfl rfl, ⟨by decide, by decide, by decide +kernel⟩, by decide⟩
theorem lX12_960 : Cond.methodLink RX12 960 mX12_copyMail.1 ∈ lw_g := h_t10 142 rfl rfl
theorem sX12_copyMail : Cond.instanceMethod mX12_copyMail.1 ∈ lw_g ∧ Cond.selects mX12_copyMail.1.cls mX12_copyMail.1 mX12_copyMail.1 ∈ lw_g := ⟨h_t10 144 rfl rfl, h_ins 229 rfl⟩
theorem dX12_sendTo_80 : decode cX12_sendTo 80 = .ok (.invokevirtual 960, 3) := by decide +kernel
theorem dX12_sendTo_83 : decode cX12_sendTo 83 = .ok (.return_, 1) := by decide +kernel
theorem dX12_sendTo_35 : decode cX12_sendTo 35 = .ok (.aload_n 0, 1) := by decide +kernel
theorem dX12_sendTo_36 : decode cX12_sendTo 36 = .ok (.getfield 957, 3) := by decide +kernel
theorem dX12_sendTo_39 : decode cX12_sendTo 39 = .ok (.bipush 101, 2) := by decide +kernel
theorem dX12_sendTo_41 : decode cX12_sendTo 41 = .ok (.aload_n 0, 1) := by decide +kernel
theorem dX12_sendTo_42 : decode cX12_sendTo 42 = .ok (.getfield 566, 3) := by decide +kernel
theorem dX12_sendTo_45 : decode cX12_sendTo 45 = .ok (.imul, 1) := by decide +kernel
theorem dX12_sendTo_46 : decode cX12_sendTo 46 = .ok (.iload_n 3, 1) := by decide +kernel
theorem dX12_sendTo_47 : decode cX12_sendTo 47 = .ok (.iadd, 1) := by decide +kernel
theorem dX12_sendTo_48 : decode cX12_sendTo 48 = .ok (.aload_n 0, 1) := by decide +kernel
theorem dX12_sendTo_49 : decode cX12_sendTo 49 = .ok (.getfield 260, 3) := by decide +kernel
theorem dX12_sendTo_52 : decode cX12_sendTo 52 = .ok (.aload_n 0, 1) := by decide +kernel
theorem dX12_sendTo_53 : decode cX12_sendTo 53 = .ok (.getfield 343, 3) := by decide +kernel
theorem dX12_sendTo_56 : decode cX12_sendTo 56 = .ok (.iload_n 1, 1) := by decide +kernel
theorem dX12_sendTo_57 : decode cX12_sendTo 57 = .ok (.iaload, 1) := by decide +kernel
theorem dX12_sendTo_58 : decode cX12_sendTo 58 = .ok (.iload_n 3, 1) := by decide +kernel
theorem dX12_sendTo_59 : decode cX12_sendTo 59 = .ok (.iadd, 1) := by decide +kernel
theorem dX12_sendTo_60 : decode cX12_sendTo 60 = .ok (.iaload, 1) := by decide +kernel
theorem dX12_sendTo_61 : decode cX12_sendTo 61 = .ok (.iastore, 1) := by decide +kernel
theorem dX12_sendTo_62 : decode cX12_sendTo 62 = .ok (.iinc 3 1, 3) := by decide +kernel
theorem dX12_sendTo_65 : decode cX12_sendTo 65 = .ok (.goto (-40), 3) := by decide +kernel
theorem dX12_sendTo_0 : decode cX12_sendTo 0 = .ok (.aload_n 0, 1) := by decide +kernel
theorem dX12_sendTo_1 : decode cX12_sendTo 1 = .ok (.iconst 4, 1) := by decide +kernel
theorem dX12_sendTo_2 : decode cX12_sendTo 2 = .ok (.iconst 0, 1) := by decide +kernel
theorem dX12_sendTo_3 : decode cX12_sendTo 3 = .ok (.iconst 0, 1) := by decide +kernel
theorem kX12_beginMail : h_ml mX12_beginMail 3 := ⟨h_t10 141 rfl rfl, h_t1 16 rfl rfl, ⟨by decide, by decide, by decide +kernel⟩, by decide⟩
theorem lX12_950 : Cond.methodLink RX12 950 mX12_beginMail.1 ∈ lw_g := h_t10 138 rfl rfl
theorem sX12_beginMail : Cond.instanceMethod mX12_beginMail.1 ∈ lw_g ∧ Cond.selects mX12_beginMail.1.cls mX12_beginMail.1 mX12_beginMail.1 ∈ lw_g := ⟨h_t10 140 rfl rfl, h_ins 228 rfl⟩
theorem dX12_sendTo_4 : decode cX12_sendTo 4 = .ok (.invokevirtual 950, 3) := by decide +kernel
theorem dX12_sendTo_7 : decode cX12_sendTo 7 = .ok (.istore_n 2, 1) := by decide +kernel
theorem dX12_sendTo_8 : decode cX12_sendTo 8 = .ok (.aload_n 0, 1) := by decide +kernel
theorem dX12_sendTo_9 : decode cX12_sendTo 9 = .ok (.getfield 954, 3) := by decide +kernel
theorem dX12_sendTo_12 : decode cX12_sendTo 12 = .ok (.aload_n 0, 1) := by decide +kernel
theorem dX12_sendTo_13 : decode cX12_sendTo 13 = .ok (.getfield 566, 3) := by decide +kernel
theorem dX12_sendTo_16 : decode cX12_sendTo 16 = .ok (.aload_n 0, 1) := by decide +kernel
theorem dX12_sendTo_17 : decode cX12_sendTo 17 = .ok (.getfield 346, 3) := by decide +kernel
theorem dX12_sendTo_20 : decode cX12_sendTo 20 = .ok (.iload_n 1, 1) := by decide +kernel
theorem dX12_sendTo_21 : decode cX12_sendTo 21 = .ok (.iaload, 1) := by decide +kernel
theorem dX12_sendTo_22 : decode cX12_sendTo 22 = .ok (.iastore, 1) := by decide +kernel
theorem dX12_sendTo_23 : decode cX12_sendTo 23 = .ok (.iconst 0, 1) := by decide +kernel
theorem dX12_sendTo_24 : decode cX12_sendTo 24 = .ok (.istore_n 3, 1) := by decide +kernel
def fb_X12_sendTo_25 (K25 : Int32 → Int32 → Int32 → uS → Option uS) (x1 : Int32) (x2 : Int32) (x3 : Int32) (s : uS) : Option uS := (iget 20 s 1117 x1).bind fun v1 => if v1 ≤ x3 then ((fn_X12_copyMail x2 (wI s 1079 71 ((s.I 1079 71) + 1))).bind fun s4 => some s4) else ((iget 20 s 1116 x1).bind fun v6 => (iget 20 s 1097 (v6 + x3)).bind fun v8 => (iput 20 s 1124 (((101 : Int32) * (s.I 1079 71)) + x3) v8).bind fun s10 => K25 x1 x2 (x3 + 1) s10)
set_option maxRecDepth 100000 in
set_option maxHeartbeats 4000000 in
theorem xb_X12_sendTo_25 {l : Launch} {D : va_G} {A : Nat → ClassId} {B : Nat} {Z : State → Heap → Prop} {vF : Value} (uk : uK B Z vF) {K25 : Int32 → Int32 → Int32 → uS → Option uS} (hK25 : ∀ (x1 : Int32) (x2 : Int32) (x3 : Int32)  (s : uS) (r : uS), K25 x1 x2 x3 s = some r → GU l D A B Z mX12_sendTo 2 (r, none) s 25 [(0, .ref (B + 1079)), (1, .int x1), (2, .int x2), (3, .int x3)] []) {x1 : Int32} {x2 : Int32} {x3 : Int32} {s : uS} {r : uS}  (h : fb_X12_sendTo_25 K25 x1 x2 x3 s = some r) : GU l D A B Z mX12_sendTo 2 (r, none) s 25 [(0, .ref (B + 1079)), (1, .int x1), (2, .int x2), (3, .int x3)] [] := by
  unfold fb_X12_sendTo_25 at h
  refine uu_iload_n dX12_sendTo_25 rfl (List.mem_of_getElem? (i := 3) rfl) ?_
  refine uu_aload_n dX12_sendTo_26 rfl (List.mem_of_getElem? (i := 0) rfl) ?_
  refine uu_geta (ci := 12) (N := 153) fX12_346 (by decide) so_1079.is (by decide) (c := 1117) (by decide) dX12_sendTo_27 ?_
  refine uu_iload_n dX12_sendTo_30 rfl (List.mem_of_getElem? (i := 1) rfl) ?_
  obtain ⟨v1, e2, h⟩ := uu_ob h
  refine uu_iald e2 dX12_sendTo_31 ?_
  refine uu_icmp_ge (tgt := 68) dX12_sendTo_32 (by decide) (fun c3 => ?_) (fun c3 => ?_)
  · replace h := uu_pos c3 h
    refine uu_aload_n dX12_sendTo_68 rfl (List.mem_of_getElem? (i := 0) rfl) ?_
    refine uu_aload_n dX12_sendTo_69 rfl (List.mem_of_getElem? (i := 0) rfl) ?_
    refine uu_geti (ci := 12) (N := 153) fX12_566 (by decide) so_1079.is (by decide) (by decide) dX12_sendTo_70 ?_
    refine uu_iconst (v := 1) dX12_sendTo_73 (by decide) ?_
    refine uu_iadd dX12_sendTo_74 ?_
    refine uu_puti (ft := .int) (ci := 12) (N := 153) fX12_566 ptX12 (Or.inl rfl) (by decide) so_1079.is (by decide) (by decide) (by decide +kernel) rfl rfl dX12_sendTo_75 ?_
    refine uu_aload_n dX12_sendTo_78 rfl (List.mem_of_getElem? (i := 0) rfl) ?_
    refine uu_iload_n dX12_sendTo_79 rfl (List.mem_of_getElem? (i := 2) rfl) ?_
    obtain ⟨s4, e5, h⟩ := uu_ob h
    refine uu_cv (d1 := 1) (k := 1079) (ci := 12) (T := TX12) (N := 153) (As := [.int x2]) (st := []) (st' := []) (xc_X12_copyMail uk  e5) so_1079.is (by decide) rfl kX12_copyMail lX12_960 sX12_copyMail (by decide) (Nat.le_of_ble_eq_true rfl) dX12_sendTo_80 rfl ?_
    have hr := Option.some.inj h
    subst hr
    exact uu_vret rfl dX12_sendTo_83
  · replace h := uu_neg c3 h
    refine uu_aload_n dX12_sendTo_35 rfl (List.mem_of_getElem? (i := 0) rfl) ?_
    refine uu_geta (ci := 12) (N := 153) fX12_957 (by decide) so_1079.is (by decide) (c := 1124) (by decide) dX12_sendTo_36 ?_
    refine uu_bipush (v := 101) dX12_sendTo_39 (by decide) ?_
    refine uu_aload_n dX12_sendTo_41 rfl (List.mem_of_getElem? (i := 0) rfl) ?_
    refine uu_geti (ci := 12) (N := 153) fX12_566 (by decide) so_1079.is (by decide) (by decide) dX12_sendTo_42 ?_
    refine uu_imul dX12_sendTo_45 ?_
    refine uu_iload_n dX12_sendTo_46 rfl (List.mem_of_getElem? (i := 3) rfl) ?_
    refine uu_iadd dX12_sendTo_47 ?_
    refine uu_aload_n dX12_sendTo_48 rfl (List.mem_of_getElem? (i := 0) rfl) ?_
    refine uu_geta (ci := 12) (N := 153) fX12_260 (by decide) so_1079.is (by decide) (c := 1097) (by decide) dX12_sendTo_49 ?_
    refine uu_aload_n dX12_sendTo_52 rfl (List.mem_of_getElem? (i := 0) rfl) ?_
    refine uu_geta (ci := 12) (N := 153) fX12_343 (by decide) so_1079.is (by decide) (c := 1116) (by decide) dX12_sendTo_53 ?_
    refine uu_iload_n dX12_sendTo_56 rfl (List.mem_of_getElem? (i := 1) rfl) ?_
    obtain ⟨v6, e7, h⟩ := uu_ob h
    refine uu_iald e7 dX12_sendTo_57 ?_
    refine uu_iload_n dX12_sendTo_58 rfl (List.mem_of_getElem? (i := 3) rfl) ?_
    refine uu_iadd dX12_sendTo_59 ?_
    obtain ⟨v8, e9, h⟩ := uu_ob h
    refine uu_iald e9 dX12_sendTo_60 ?_
    obtain ⟨s10, e11, h⟩ := uu_ob h
    refine uu_iast e11 dX12_sendTo_61 ?_
    refine uu_iinc (v := x3 + 1) dX12_sendTo_62 (k := 3) rfl rfl (by decide) rfl ?_
    refine uu_goto (tgt := 25) dX12_sendTo_65 (by decide) ?_
    refine uu_lv [1, 2, 3, 0] (lv' := [(0, .ref (B + 1079)), (1, .int x1), (2, .int x2), (3, .int (x3 + 1))]) rfl ?_
    exact hK25 x1 x2 (x3 + 1) _ _ h
def fn_X12_sendTo_25  : Nat → Int32 → Int32 → Int32 → uS → Option uS
  | 0 => fun _ _ _ _ => none
  | n + 1 => fb_X12_sendTo_25 (fn_X12_sendTo_25  n)
set_option maxRecDepth 100000 in
set_option maxHeartbeats 4000000 in
theorem xn_X12_sendTo_25 {l : Launch} {D : va_G} {A : Nat → ClassId} {B : Nat} {Z : State → Heap → Prop} {vF : Value} (uk : uK B Z vF)   : ∀ (n : Nat) (x1 : Int32) (x2 : Int32) (x3 : Int32)  (s : uS) (r : uS), fn_X12_sendTo_25  n x1 x2 x3 s = some r → GU l D A B Z mX12_sendTo 2 (r, none) s 25 [(0, .ref (B + 1079)), (1, .int x1), (2, .int x2), (3, .int x3)] [] := by
  intro n
  induction n with
  | zero => intro x1 x2 x3 s r h
            cases h
  | succ n ih => intro x1 x2 x3 s r h
                 exact xb_X12_sendTo_25 uk ih  h
def fn_X12_sendTo (x1 : Int32) (s : uS) : Option uS := (fn_X12_beginMail 4 0 0 s).bind fun r1 => (iget 20 r1.1 1117 x1).bind fun v3 => (iput 20 r1.1 1125 (r1.1.I 1079 71) v3).bind fun s5 => fn_X12_sendTo_25 uFu x1 r1.2 0 s5
set_option maxRecDepth 100000 in
set_option maxHeartbeats 4000000 in
theorem xc_X12_sendTo {l : Launch} {D : va_G} {A : Nat → ClassId} {B : Nat} {Z : State → Heap → Prop} {vF : Value} (uk : uK B Z vF) {x1 : Int32} {s : uS} {r : uS}  (h : fn_X12_sendTo x1 s = some r) : CU l D A B Z 2 mX12_sendTo s [.ref (B + 1079), .int x1] (r, none) := by
  unfold fn_X12_sendTo at h
  refine cu_of rfl uk.1.1 (Nat.le_of_ble_eq_true rfl) ?_
  show GU _ _ _ _ _ _ _ _ _ 0 [(0, .ref (B + 1079)), (1, .int x1)] []
  refine uu_aload_n dX12_sendTo_0 rfl (List.mem_of_getElem? (i := 0) rfl) ?_
  refine uu_iconst (v := 4) dX12_sendTo_1 (by decide) ?_
  refine uu_iconst (v := 0) dX12_sendTo_2 (by decide) ?_
  refine uu_iconst (v := 0) dX12_sendTo_3 (by decide) ?_
  obtain ⟨r1, e2, h⟩ := uu_ob h
  refine uu_cv (d1 := 0) (k := 1079) (ci := 12) (T := TX12) (N := 153) (As := [.int 4, .int 0, .int 0]) (st := []) (st' := [.int r1.2]) (xc_X12_beginMail uk  e2) so_1079.is (by decide) rfl kX12_beginMail lX12_950 sX12_beginMail (by decide) (Nat.le_of_ble_eq_true rfl) dX12_sendTo_4 rfl ?_
  refine uu_istore_n dX12_sendTo_7 rfl (by decide) rfl ?_
  refine uu_aload_n dX12_sendTo_8 rfl (List.mem_of_getElem? (i := 1) rfl) ?_
  refine uu_geta (ci := 12) (N := 153) fX12_954 (by decide) so_1079.is (by decide) (c := 1125) (by decide) dX12_sendTo_9 ?_
  refine uu_aload_n dX12_sendTo_12 rfl (List.mem_of_getElem? (i := 1) rfl) ?_
  refine uu_geti (ci := 12) (N := 153) fX12_566 (by decide) so_1079.is (by decide) (by decide) dX12_sendTo_13 ?_
  refine uu_aload_n dX12_sendTo_16 rfl (List.mem_of_getElem? (i := 1) rfl) ?_
  refine uu_geta (ci := 12) (N := 153) fX12_346 (by decide) so_1079.is (by decide) (c := 1117) (by decide) dX12_sendTo_17 ?_
  refine uu_iload_n dX12_sendTo_20 rfl (List.mem_of_getElem? (i := 2) rfl) ?_
  obtain ⟨v3, e4, h⟩ := uu_ob h
  refine uu_iald e4 dX12_sendTo_21 ?_
  obtain ⟨s5, e6, h⟩ := uu_ob h
  refine uu_iast e6 dX12_sendTo_22 ?_
  refine uu_iconst (v := 0) dX12_sendTo_23 (by decide) ?_
  refine uu_istore_n dX12_sendTo_24 rfl (by decide) rfl ?_
  refine uu_lv [2, 3, 1, 0] (lv' := [(0, .ref (B + 1079)), (1, .int x1), (2, .int r1.2), (3, .int 0)]) rfl ?_
  exact xn_X12_sendTo_25 uk  _ _ _ _ _ _ h
abbrev mX12_sendLetter : hM := (yX12_sendLetter, cX12_sendLetter, 3, none)
theorem dX12_sendLetter_69 : decode cX12_sendLetter 69 = .ok (.iload_n 2, 1) := by decide +kernel
theorem dX12_sendLetter_70 : decode cX12_sendLetter 70 = .ok (.aload_n 0, 1) := by decide +kernel
theorem dX12_sendLetter_71 : decode cX12_sendLetter 71 = .ok (.getfield 900, 3) := by decide +kernel
theorem dX12_sendLetter_74 : decode cX12_sendLetter 74 = .ok (.if_icmp .ge 19, 3) := by decide +kernel
theorem dX12_sendLetter_93 : decode cX12_sendLetter 93 = .ok (.aload_n 0, 1) := by decide +kernel
theorem dX12_sendLetter_94 : decode cX12_sendLetter 94 = .ok (.getfield 578, 3) := by decide +kernel
theorem dX12_sendLetter_97 : decode cX12_sendLetter 97 = .ok (.iload_n 1, 1) := by decide +kernel
theorem dX12_sendLetter_98 : decode cX12_sendLetter 98 = .ok (.aload_n 0, 1) := by decide +kernel
theorem dX12_sendLetter_99 : decode cX12_sendLetter 99 = .ok (.getfield 900, 3) := by decide +kernel
theorem dX12_sendLetter_102 : decode cX12_sendLetter 102 = .ok (.iastore, 1) := by decide +kernel
theorem dX12_sendLetter_103 : decode cX12_sendLetter 103 = .ok (.return_, 1) := by decide +kernel
theorem dX12_sendLetter_77 : decode cX12_sendLetter 77 = .ok (.aload_n 0, 1) := by decide +kernel
theorem dX12_sendLetter_78 : decode cX12_sendLetter 78 = .ok (.aload_n 0, 1) := by decide +kernel
theorem dX12_sendLetter_79 : decode cX12_sendLetter 79 = .ok (.getfield 897, 3) := by decide +kernel
theorem dX12_sendLetter_82 : decode cX12_sendLetter 82 = .ok (.iload_n 2, 1) := by decide +kernel
theorem dX12_sendLetter_83 : decode cX12_sendLetter 83 = .ok (.iaload, 1) := by decide +kernel
theorem dX12_sendLetter_84 : decode cX12_sendLetter 84 = .ok (.invokevirtual 947, 3) := by decide +kernel
theorem dX12_sendLetter_87 : decode cX12_sendLetter 87 = .ok (.iinc 2 1, 3) := by decide +kernel
theorem dX12_sendLetter_90 : decode cX12_sendLetter 90 = .ok (.goto (-21), 3) := by decide +kernel
theorem dX12_sendLetter_23 : decode cX12_sendLetter 23 = .ok (.iload_n 2, 1) := by decide +kernel
theorem dX12_sendLetter_24 : decode cX12_sendLetter 24 = .ok (.aload_n 0, 1) := by decide +kernel
theorem dX12_sendLetter_25 : decode cX12_sendLetter 25 = .ok (.getfield 678, 3) := by decide +kernel
theorem dX12_sendLetter_28 : decode cX12_sendLetter 28 = .ok (.if_icmp .ge 29, 3) := by decide +kernel
theorem dX12_sendLetter_57 : decode cX12_sendLetter 57 = .ok (.aload_n 0, 1) := by decide +kernel
theorem dX12_sendLetter_58 : decode cX12_sendLetter 58 = .ok (.aload_n 0, 1) := by decide +kernel
theorem dX12_sendLetter_59 : decode cX12_sendLetter 59 = .ok (.getfield 566, 3) := by decide +kernel
theorem dX12_sendLetter_62 : decode cX12_sendLetter 62 = .ok (.iconst 1, 1) := by decide +kernel
theorem dX12_sendLetter_63 : decode cX12_sendLetter 63 = .ok (.iadd, 1) := by decide +kernel
theorem dX12_sendLetter_64 : decode cX12_sendLetter 64 = .ok (.putfield 566, 3) := by decide +kernel
theorem dX12_sendLetter_67 : decode cX12_sendLetter 67 = .ok (.iconst 0, 1) := by decide +kernel
theorem dX12_sendLetter_68 : decode cX12_sendLetter 68 = .ok (.istore_n 2, 1) := by decide +kernel
theorem dX12_sendLetter_31 : decode cX12_sendLetter 31 = .ok (.aload_n 0, 1) := by decide +kernel
theorem dX12_sendLetter_32 : decode cX12_sendLetter 32 = .ok (.getfield 957, 3) := by decide +kernel
theorem dX12_sendLetter_35 : decode cX12_sendLetter 35 = .ok (.bipush 101, 2) := by decide +kernel
theorem dX12_sendLetter_37 : decode cX12_sendLetter 37 = .ok (.aload_n 0, 1) := by decide +kernel
theorem dX12_sendLetter_38 : decode cX12_sendLetter 38 = .ok (.getfield 566, 3) := by decide +kernel
theorem dX12_sendLetter_41 : decode cX12_sendLetter 41 = .ok (.imul, 1) := by decide +kernel
theorem dX12_sendLetter_42 : decode cX12_sendLetter 42 = .ok (.iload_n 2, 1) := by decide +kernel
theorem dX12_sendLetter_43 : decode cX12_sendLetter 43 = .ok (.iadd, 1) := by decide +kernel
theorem dX12_sendLetter_44 : decode cX12_sendLetter 44 = .ok (.aload_n 0, 1) := by decide +kernel
theorem dX12_sendLetter_45 : decode cX12_sendLetter 45 = .ok (.getfield 681, 3) := by decide +kernel
theorem dX12_sendLetter_48 : decode cX12_sendLetter 48 = .ok (.iload_n 2, 1) := by decide +kernel
theorem dX12_sendLetter_49 : decode cX12_sendLetter 49 = .ok (.iaload, 1) := by decide +kernel
theorem dX12_sendLetter_50 : decode cX12_sendLetter 50 = .ok (.iastore, 1) := by decide +kernel
theorem dX12_sendLetter_51 : decode cX12_sendLetter 51 = .ok (.iinc 2 1, 3) := by decide +kernel
theorem dX12_sendLetter_54 : decode cX12_sendLetter 54 = .ok (.goto (-31), 3) := by decide +kernel
theorem dX12_sendLetter_0 : decode cX12_sendLetter 0 = .ok (.aload_n 0, 1) := by decide +kernel
theorem dX12_sendLetter_1 : decode cX12_sendLetter 1 = .ok (.iconst 4, 1) := by decide +kernel
theorem dX12_sendLetter_2 : decode cX12_sendLetter 2 = .ok (.iconst 0, 1) := by decide +kernel
theorem dX12_sendLetter_3 : decode cX12_sendLetter 3 = .ok (.iconst 0, 1) := by decide +kernel
theorem dX12_sendLetter_4 : decode cX12_sendLetter 4 = .ok (.invokevirtual 950, 3) := by decide +kernel
theorem dX12_sendLetter_7 : decode cX12_sendLetter 7 = .ok (.istore_n 1, 1) := by decide +kernel
theorem dX12_sendLetter_8 : decode cX12_sendLetter 8 = .ok (.aload_n 0, 1) := by decide +kernel
theorem dX12_sendLetter_9 : decode cX12_sendLetter 9 = .ok (.getfield 954, 3) := by decide +kernel
theorem dX12_sendLetter_12 : decode cX12_sendLetter 12 = .ok (.aload_n 0, 1) := by decide +kernel
theorem dX12_sendLetter_13 : decode cX12_sendLetter 13 = .ok (.getfield 566, 3) := by decide +kernel
theorem dX12_sendLetter_16 : decode cX12_sendLetter 16 = .ok (.aload_n 0, 1) := by decide +kernel
theorem dX12_sendLetter_17 : decode cX12_sendLetter 17 = .ok (.getfield 678, 3) := by decide +kernel
theorem dX12_sendLetter_20 : decode cX12_sendLetter 20 = .ok (.iastore, 1) := by decide +kernel
theorem dX12_sendLetter_21 : decode cX12_sendLetter 21 = .ok (.iconst 0, 1) := by decide +kernel
theorem dX12_sendLetter_22 : decode cX12_sendLetter 22 = .ok (.istore_n 2, 1) := by decide +kernel
def fb_X12_sendLetter_69 (K69 : Int32 → Int32 → uS → Option uS) (x1 : Int32) (x2 : Int32) (s : uS) : Option uS := if (s.I 1079 112) ≤ x2 then ((iput 20 s 1122 x1 (s.I 1079 112)).bind fun s2 => some s2) else ((iget 20 s 1143 x2).bind fun v4 => (fn_X12_store v4 s).bind fun s6 => K69 x1 (x2 + 1) s6)
set_option maxRecDepth 100000 in
set_option maxHeartbeats 4000000 in
theorem xb_X12_sendLetter_69 {l : Launch} {D : va_G} {A : Nat → ClassId} {B : Nat} {Z : State → Heap → Prop} {vF : Value} (uk : uK B Z vF) {K69 : Int32 → Int32 → uS → Option uS} (hK69 : ∀ (x1 : Int32) (x2 : Int32)  (s : uS) (r : uS), K69 x1 x2 s = some r → GU l D A B Z mX12_sendLetter 1 (r, none) s 69 [(0, .ref (B + 1079)), (1, .int x1), (2, .int x2)] []) {x1 : Int32} {x2 : Int32} {s : uS} {r : uS}  (h : fb_X12_sendLetter_69 K69 x1 x2 s = some r) : GU l D A B Z mX12_sendLetter 1 (r, none) s 69 [(0, .ref (B + 1079)), (1, .int x1), (2, .int x2)] [] := by
  unfold fb_X12_sendLetter_69 at h
  refine uu_iload_n dX12_sendLetter_69 rfl (List.mem_of_getElem? (i := 2) rfl) ?_
  refine uu_aload_n dX12_sendLetter_70 rfl (List.mem_of_getElem? (i := 0) rfl) ?_
  refine uu_geti (ci := 12) (N := 153) fX12_900 (by decide) so_1079.is (by decide) (by decide) dX12_sendLetter_71 ?_
  refine uu_icmp_ge (tgt := 93) dX12_sendLetter_74 (by decide) (fun c1 => ?_) (fun c1 => ?_)
  · replace h := uu_pos c1 h
    refine uu_aload_n dX12_sendLetter_93 rfl (List.mem_of_getElem? (i := 0) rfl) ?_
    refine uu_geta (ci := 12) (N := 153) fX12_578 (by decide) so_1079.is (by decide) (c := 1122) (by decide) dX12_sendLetter_94 ?_
    refine uu_iload_n dX12_sendLetter_97 rfl (List.mem_of_getElem? (i := 1) rfl) ?_
    refine uu_aload_n dX12_sendLetter_98 rfl (List.mem_of_getElem? (i := 0) rfl) ?_
    refine uu_geti (ci := 12) (N := 153) fX12_900 (by decide) so_1079.is (by decide) (by decide) dX12_sendLetter_99 ?_
    obtain ⟨s2, e3, h⟩ := uu_ob h
    refine uu_iast e3 dX12_sendLetter_102 ?_
    have hr := Option.some.inj h
    subst hr
    exact uu_vret rfl dX12_sendLetter_103
  · replace h := uu_neg c1 h
    refine uu_aload_n dX12_sendLetter_77 rfl (List.mem_of_getElem? (i := 0) rfl) ?_
    refine uu_aload_n dX12_sendLetter_78 rfl (List.mem_of_getElem? (i := 0) rfl) ?_
    refine uu_geta (ci := 12) (N := 153) fX12_897 (by decide) so_1079.is (by decide) (c := 1143) (by decide) dX12_sendLetter_79 ?_
    refine uu_iload_n dX12_sendLetter_82 rfl (List.mem_of_getElem? (i := 2) rfl) ?_
    obtain ⟨v4, e5, h⟩ := uu_ob h
    refine uu_iald e5 dX12_sendLetter_83 ?_
    obtain ⟨s6, e7, h⟩ := uu_ob h
    refine uu_cv (d1 := 0) (k := 1079) (ci := 12) (T := TX12) (N := 153) (As := [.int v4]) (st := []) (st' := []) (xc_X12_store uk  e7) so_1079.is (by decide) rfl kX12_store lX12_947 sX12_store (by decide) (Nat.le_of_ble_eq_true rfl) dX12_sendLetter_84 rfl ?_
    refine uu_iinc (v := x2 + 1) dX12_sendLetter_87 (k := 2) rfl rfl (by decide) rfl ?_
    refine uu_goto (tgt := 69) dX12_sendLetter_90 (by decide) ?_
    refine uu_lv [1, 2, 0] (lv' := [(0, .ref (B + 1079)), (1, .int x1), (2, .int (x2 + 1))]) rfl ?_
    exact hK69 x1 (x2 + 1) _ _ h
def fn_X12_sendLetter_69  : Nat → Int32 → Int32 → uS → Option uS
  | 0 => fun _ _ _ => none
  | n + 1 => fb_X12_sendLetter_69 (fn_X12_sendLetter_69  n)
set_option maxRecDepth 100000 in
set_option maxHeartbeats 4000000 in
theorem xn_X12_sendLetter_69 {l : Launch} {D : va_G} {A : Nat → ClassId} {B : Nat} {Z : State → Heap → Prop} {vF : Value} (uk : uK B Z vF)   : ∀ (n : Nat) (x1 : Int32) (x2 : Int32)  (s : uS) (r : uS), fn_X12_sendLetter_69  n x1 x2 s = some r → GU l D A B Z mX12_sendLetter 1 (r, none) s 69 [(0, .ref (B + 1079)), (1, .int x1), (2, .int x2)] [] := by
  intro n
  induction n with
  | zero => intro x1 x2 s r h
            cases h
  | succ n ih => intro x1 x2 s r h
                 exact xb_X12_sendLetter_69 uk ih  h
def fb_X12_sendLetter_23 (K23 : Int32 → Int32 → uS → Option uS) (x1 : Int32) (x2 : Int32) (s : uS) : Option uS := if (s.I 1079 93) ≤ x2 then (fn_X12_sendLetter_69 uFu x1 0 (wI s 1079 71 ((s.I 1079 71) + 1))) else ((iget 20 s 1137 x2).bind fun v2 => (iput 20 s 1124 (((101 : Int32) * (s.I 1079 71)) + x2) v2).bind fun s4 => K23 x1 (x2 + 1) s4)
set_option maxRecDepth 100000 in
set_option maxHeartbeats 4000000 in
theorem xb_X12_sendLetter_23 {l : Launch} {D : va_G} {A : Nat → ClassId} {B : Nat} {Z : State → Heap → Prop} {vF : Value} (uk : uK B Z vF) {K23 : Int32 → Int32 → uS → Option uS} (hK23 : ∀ (x1 : Int32) (x2 : Int32)  (s : uS) (r : uS), K23 x1 x2 s = some r → GU l D A B Z mX12_sendLetter 1 (r, none) s 23 [(0, .ref (B + 1079)), (1, .int x1), (2, .int x2)] []) {x1 : Int32} {x2 : Int32} {s : uS} {r : uS}  (h : fb_X12_sendLetter_23 K23 x1 x2 s = some r) : GU l D A B Z mX12_sendLetter 1 (r, none) s 23 [(0, .ref (B + 1079)), (1, .int x1), (2, .int x2)] [] := by
  unfold fb_X12_sendLetter_23 at h
  refine uu_iload_n dX12_sendLetter_23 rfl (List.mem_of_getElem? (i := 2) rfl) ?_
  refine uu_aload_n dX12_sendLetter_24 rfl (List.mem_of_getElem? (i := 0) rfl) ?_
  refine uu_geti (ci := 12) (N := 153) fX12_678 (by decide) so_1079.is (by decide) (by decide) dX12_sendLetter_25 ?_
  refine uu_icmp_ge (tgt := 57) dX12_sendLetter_28 (by decide) (fun c1 => ?_) (fun c1 => ?_)
  · replace h := uu_pos c1 h
    refine uu_aload_n dX12_sendLetter_57 rfl (List.mem_of_getElem? (i := 0) rfl) ?_
    refine uu_aload_n dX12_sendLetter_58 rfl (List.mem_of_getElem? (i := 0) rfl) ?_
    refine uu_geti (ci := 12) (N := 153) fX12_566 (by decide) so_1079.is (by decide) (by decide) dX12_sendLetter_59 ?_
    refine uu_iconst (v := 1) dX12_sendLetter_62 (by decide) ?_
    refine uu_iadd dX12_sendLetter_63 ?_
    refine uu_puti (ft := .int) (ci := 12) (N := 153) fX12_566 ptX12 (Or.inl rfl) (by decide) so_1079.is (by decide) (by decide) (by decide +kernel) rfl rfl dX12_sendLetter_64 ?_
    refine uu_iconst (v := 0) dX12_sendLetter_67 (by decide) ?_
    refine uu_istore_n dX12_sendLetter_68 rfl (by decide) rfl ?_
    refine uu_lv [1, 2, 0] (lv' := [(0, .ref (B + 1079)), (1, .int x1), (2, .int 0)]) rfl ?_
    exact xn_X12_sendLetter_69 uk  _ _ _ _ _ h
  · replace h := uu_neg c1 h
    refine uu_aload_n dX12_sendLetter_31 rfl (List.mem_of_getElem? (i := 0) rfl) ?_
    refine uu_geta (ci := 12) (N := 153) fX12_957 (by decide) so_1079.is (by decide) (c := 1124) (by decide) dX12_sendLetter_32 ?_
    refine uu_bipush (v := 101) dX12_sendLetter_35 (by decide) ?_
    refine uu_aload_n dX12_sendLetter_37 rfl (List.mem_of_getElem? (i := 0) rfl) ?_
    refine uu_geti (ci := 12) (N := 153) fX12_566 (by decide) so_1079.is (by decide) (by decide) dX12_sendLetter_38 ?_
    refine uu_imul dX12_sendLetter_41 ?_
    refine uu_iload_n dX12_sendLetter_42 rfl (List.mem_of_getElem? (i := 2) rfl) ?_
    refine uu_iadd dX12_sendLetter_43 ?_
    refine uu_aload_n dX12_sendLetter_44 rfl (List.mem_of_getElem? (i := 0) rfl) ?_
    refine uu_geta (ci := 12) (N := 153) fX12_681 (by decide) so_1079.is (by decide) (c := 1137) (by decide) dX12_sendLetter_45 ?_
    refine uu_iload_n dX12_sendLetter_48 rfl (List.mem_of_getElem? (i := 2) rfl) ?_
    obtain ⟨v2, e3, h⟩ := uu_ob h
    refine uu_iald e3 dX12_sendLetter_49 ?_
    obtain ⟨s4, e5, h⟩ := uu_ob h
    refine uu_iast e5 dX12_sendLetter_50 ?_
    refine uu_iinc (v := x2 + 1) dX12_sendLetter_51 (k := 2) rfl rfl (by decide) rfl ?_
    refine uu_goto (tgt := 23) dX12_sendLetter_54 (by decide) ?_
    refine uu_lv [1, 2, 0] (lv' := [(0, .ref (B + 1079)), (1, .int x1), (2, .int (x2 + 1))]) rfl ?_
    exact hK23 x1 (x2 + 1) _ _ h
def fn_X12_sendLetter_23  : Nat → Int32 → Int32 → uS → Option uS
  | 0 => fun _ _ _ => none
  | n + 1 => fb_X12_sendLetter_23 (fn_X12_sendLetter_23  n)
set_option maxRecDepth 100000 in
set_option maxHeartbeats 4000000 in
theorem xn_X12_sendLetter_23 {l : Launch} {D : va_G} {A : Nat → ClassId} {B : Nat} {Z : State → Heap → Prop} {vF : Value} (uk : uK B Z vF)   : ∀ (n : Nat) (x1 : Int32) (x2 : Int32)  (s : uS) (r : uS), fn_X12_sendLetter_23  n x1 x2 s = some r → GU l D A B Z mX12_sendLetter 1 (r, none) s 23 [(0, .ref (B + 1079)), (1, .int x1), (2, .int x2)] [] := by
  intro n
  induction n with
  | zero => intro x1 x2 s r h
            cases h
  | succ n ih => intro x1 x2 s r h
                 exact xb_X12_sendLetter_23 uk ih  h
def fn_X12_sendLetter  (s : uS) : Option uS := (fn_X12_beginMail 4 0 0 s).bind fun r1 => (iput 20 r1.1 1125 (r1.1.I 1079 71) (r1.1.I 1079 93)).bind fun s3 => fn_X12_sendLetter_23 uFu r1.2 0 s3
set_option maxRecDepth 100000 in
set_option maxHeartbeats 4000000 in
theorem xc_X12_sendLetter {l : Launch} {D : va_G} {A : Nat → ClassId} {B : Nat} {Z : State → Heap → Prop} {vF : Value} (uk : uK B Z vF)  {s : uS} {r : uS}  (h : fn_X12_sendLetter  s = some r) : CU l D A B Z 1 mX12_sendLetter s [.ref (B + 1079)] (r, none) := by
  unfold fn_X12_sendLetter at h
  refine cu_of rfl uk.1.1 (Nat.le_of_ble_eq_true rfl) ?_
  show GU _ _ _ _ _ _ _ _ _ 0 [(0, .ref (B + 1079))] []
  refine uu_aload_n dX12_sendLetter_0 rfl (List.mem_of_getElem? (i := 0) rfl) ?_
  refine uu_iconst (v := 4) dX12_sendLetter_1 (by decide) ?_
  refine uu_iconst (v := 0) dX12_sendLetter_2 (by decide) ?_
  refine uu_iconst (v := 0) dX12_sendLetter_3 (by decide) ?_
  obtain ⟨r1, e2, h⟩ := uu_ob h
  refine uu_cv (d1 := 0) (k := 1079) (ci := 12) (T := TX12) (N := 153) (As := [.int 4, .int 0, .int 0]) (st := []) (st' := [.int r1.2]) (xc_X12_beginMail uk  e2) so_1079.is (by decide) rfl kX12_beginMail lX12_950 sX12_beginMail (by decide) (Nat.le_of_ble_eq_true rfl) dX12_sendLetter_4 rfl ?_
  refine uu_istore_n dX12_sendLetter_7 rfl (by decide) rfl ?_
  refine uu_aload_n dX12_sendLetter_8 rfl (List.mem_of_getElem? (i := 1) rfl) ?_
  refine uu_geta (ci := 12) (N := 153) fX12_954 (by decide) so_1079.is (by decide) (c := 1125) (by decide) dX12_sendLetter_9 ?_
  refine uu_aload_n dX12_sendLetter_12 rfl (List.mem_of_getElem? (i := 1) rfl) ?_
  refine uu_geti (ci := 12) (N := 153) fX12_566 (by decide) so_1079.is (by decide) (by decide) dX12_sendLetter_13 ?_
  refine uu_aload_n dX12_sendLetter_16 rfl (List.mem_of_getElem? (i := 1) rfl) ?_
  refine uu_geti (ci := 12) (N := 153) fX12_678 (by decide) so_1079.is (by decide) (by decide) dX12_sendLetter_17 ?_
  obtain ⟨s3, e4, h⟩ := uu_ob h
  refine uu_iast e4 dX12_sendLetter_20 ?_
  refine uu_iconst (v := 0) dX12_sendLetter_21 (by decide) ?_
  refine uu_istore_n dX12_sendLetter_22 rfl (by decide) rfl ?_
  refine uu_lv [2, 1, 0] (lv' := [(0, .ref (B + 1079)), (1, .int r1.2), (2, .int 0)]) rfl ?_
  exact xn_X12_sendLetter_23 uk  _ _ _ _ _ h
def fn_X12_reset  (s : uS) : Option uS := some (wI (wI s 1079 115 0) 1079 117 0)
set_option maxRecDepth 100000 in
set_option maxHeartbeats 4000000 in
theorem xc_X12_reset {l : Launch} {D : va_G} {A : Nat → ClassId} {B : Nat} {Z : State → Heap → Prop} {vF : Value} (uk : uK B Z vF)  {s : uS} {r : uS}  (h : fn_X12_reset  s = some r) : CU l D A B Z 0 mX12_reset s [.ref (B + 1079)] (r, none) := by
  unfold fn_X12_reset at h
  refine cu_of rfl uk.1.1 (Nat.le_of_ble_eq_true rfl) ?_
  show GU _ _ _ _ _ _ _ _ _ 0 [(0, .ref (B + 1079))] []
  refine uu_aload_n dX12_reset_0 rfl (List.mem_of_getElem? (i := 0) rfl) ?_
  refine uu_iconst (v := 0) dX12_reset_1 (by decide) ?_
  refine uu_puti (ft := .boolean) (ci := 12) (N := 153) fX12_1029 ptX12 (Or.inl rfl) (by decide) so_1079.is (by decide) (by decide) (by decide +kernel) rfl rfl dX12_reset_2 ?_
  refine uu_aload_n dX12_reset_5 rfl (List.mem_of_getElem? (i := 0) rfl) ?_
  refine uu_iconst (v := 0) dX12_reset_6 (by decide) ?_
  refine uu_puti (ft := .int) (ci := 12) (N := 153) fX12_1032 ptX12 (Or.inl rfl) (by decide) so_1079.is (by decide) (by decide) (by decide +kernel) rfl rfl dX12_reset_7 ?_
  have hr := Option.some.inj h
  subst hr
  exact uu_vret rfl dX12_reset_10
def fn_X12_connect  (s : uS) : Option (uS × Bool) := if (s.I 1079 0) = 0 then (some (s, false)) else ((fn_X12_reset (wI (wI s 1079 113 1) 1079 114 0)).bind fun s2 => (fn_X12_line 4 kW_163 (wI (wI (wI s2 1079 116 0) 1079 122 0) 1079 123 0)).bind fun s5 => some (s5, true))
set_option maxRecDepth 100000 in
set_option maxHeartbeats 4000000 in
theorem xc_X12_connect {l : Launch} {D : va_G} {A : Nat → ClassId} {B : Nat} {Z : State → Heap → Prop} {vF : Value} (uk : uK B Z vF)  {s : uS} {r : (uS × Bool)}  (h : fn_X12_connect  s = some r) : CU l D A B Z 6 mX12_connect s [.ref (B + 1079)] (r.1, some (.int (bI r.2))) := by
  unfold fn_X12_connect at h
  refine cu_of rfl uk.1.1 (Nat.le_of_ble_eq_true rfl) ?_
  show GU _ _ _ _ _ _ _ _ _ 0 [(0, .ref (B + 1079))] []
  refine uu_aload_n dX12_connect_0 rfl (List.mem_of_getElem? (i := 0) rfl) ?_
  refine uu_geti (ci := 12) (N := 153) fX12_7 (by decide) so_1079.is (by decide) (by decide) dX12_connect_1 ?_
  refine uu_if_ne (tgt := 9) dX12_connect_4 (by decide) (fun c1 => ?_) (fun c1 => ?_)
  · replace h := uu_neg c1 h
    refine uu_aload_n dX12_connect_9 rfl (List.mem_of_getElem? (i := 0) rfl) ?_
    refine uu_iconst (v := 1) dX12_connect_10 (by decide) ?_
    refine uu_puti (ft := .boolean) (ci := 12) (N := 153) fX12_11 ptX12 (Or.inl rfl) (by decide) so_1079.is (by decide) (by decide) (by decide +kernel) rfl rfl dX12_connect_11 ?_
    refine uu_aload_n dX12_connect_14 rfl (List.mem_of_getElem? (i := 0) rfl) ?_
    refine uu_iconst (v := 0) dX12_connect_15 (by decide) ?_
    refine uu_puti (ft := .boolean) (ci := 12) (N := 153) fX12_1012 ptX12 (Or.inl rfl) (by decide) so_1079.is (by decide) (by decide) (by decide +kernel) rfl rfl dX12_connect_16 ?_
    refine uu_aload_n dX12_connect_19 rfl (List.mem_of_getElem? (i := 0) rfl) ?_
    obtain ⟨s2, e3, h⟩ := uu_ob h
    refine uu_cv (d1 := 0) (k := 1079) (ci := 12) (T := TX12) (N := 153) (As := []) (st := []) (st' := []) (xc_X12_reset uk  e3) so_1079.is (by decide) rfl kX12_reset lX12_1015 sX12_reset (by decide) (Nat.le_of_ble_eq_true rfl) dX12_connect_20 rfl ?_
    refine uu_aload_n dX12_connect_23 rfl (List.mem_of_getElem? (i := 0) rfl) ?_
    refine uu_iconst (v := 0) dX12_connect_24 (by decide) ?_
    refine uu_puti (ft := .boolean) (ci := 12) (N := 153) fX12_1018 ptX12 (Or.inl rfl) (by decide) so_1079.is (by decide) (by decide) (by decide +kernel) rfl rfl dX12_connect_25 ?_
    refine uu_aload_n dX12_connect_28 rfl (List.mem_of_getElem? (i := 0) rfl) ?_
    refine uu_iconst (v := 0) dX12_connect_29 (by decide) ?_
    refine uu_puti (ft := .int) (ci := 12) (N := 153) fX12_1021 ptX12 (Or.inl rfl) (by decide) so_1079.is (by decide) (by decide) (by decide +kernel) rfl rfl dX12_connect_30 ?_
    refine uu_aload_n dX12_connect_33 rfl (List.mem_of_getElem? (i := 0) rfl) ?_
    refine uu_iconst (v := 0) dX12_connect_34 (by decide) ?_
    refine uu_puti (ft := .boolean) (ci := 12) (N := 153) fX12_1024 ptX12 (Or.inl rfl) (by decide) so_1079.is (by decide) (by decide) (by decide +kernel) rfl rfl dX12_connect_35 ?_
    refine uu_aload_n dX12_connect_38 rfl (List.mem_of_getElem? (i := 0) rfl) ?_
    refine uu_iconst (v := 4) dX12_connect_39 (by decide) ?_
    obtain ⟨cq4, cp4, cv4, cw4⟩ := uk.2.1 163 _ rfl
    refine uu_ldcwS cv4 dX12_connect_40 ?_
    obtain ⟨s5, e6, h⟩ := uu_ob h
    refine uu_cv (d1 := 5) (k := 1079) (ci := 12) (T := TX12) (N := 153) (As := [.int 4, .ref cq4]) (st := []) (st' := []) (xc_X12_line uk cw4 e6) so_1079.is (by decide) rfl kX12_line lX12_974 sX12_line (by decide) (Nat.le_of_ble_eq_true rfl) dX12_connect_43 rfl ?_
    refine uu_iconst (v := 1) dX12_connect_46 (by decide) ?_
    have hr := Option.some.inj h
    subst hr
    exact uu_zret (x := bI true) rfl (bI_z _) dX12_connect_47
  · replace h := uu_pos c1 h
    refine uu_iconst (v := 0) dX12_connect_7 (by decide) ?_
    have hr := Option.some.inj h
    subst hr
    exact uu_zret (x := bI false) rfl (bI_z _) dX12_connect_8
abbrev mX12_cmdByte : hM := (yX12_cmdByte, cX12_cmdByte, 2, none)
theorem dX12_cmdByte_20 : decode cX12_cmdByte 20 = .ok (.aload_n 0, 1) := by decide +kernel
theorem dX12_cmdByte_21 : decode cX12_cmdByte 21 = .ok (.aload_n 0, 1) := by decide +kernel
theorem dX12_cmdByte_22 : decode cX12_cmdByte 22 = .ok (.getfield 1021, 3) := by decide +kernel
theorem cX12_1038 : Cond.constant RX12 1038 (100000) ∈ lw_g := h_t11 30 rfl rfl
theorem dX12_cmdByte_25 : decode cX12_cmdByte 25 = .ok (.ldc_w 1038, 3) := by decide +kernel
theorem dX12_cmdByte_28 : decode cX12_cmdByte 28 = .ok (.if_icmp .ge 12, 3) := by decide +kernel
theorem dX12_cmdByte_40 : decode cX12_cmdByte 40 = .ok (.aload_n 0, 1) := by decide +kernel
theorem dX12_cmdByte_41 : decode cX12_cmdByte 41 = .ok (.getfield 1021, 3) := by decide +kernel
theorem dX12_cmdByte_44 : decode cX12_cmdByte 44 = .ok (.putfield 1021, 3) := by decide +kernel
theorem dX12_cmdByte_47 : decode cX12_cmdByte 47 = .ok (.return_, 1) := by decide +kernel
theorem dX12_cmdByte_31 : decode cX12_cmdByte 31 = .ok (.aload_n 0, 1) := by decide +kernel
theorem dX12_cmdByte_32 : decode cX12_cmdByte 32 = .ok (.getfield 1021, 3) := by decide +kernel
theorem dX12_cmdByte_35 : decode cX12_cmdByte 35 = .ok (.iconst 1, 1) := by decide +kernel
theorem dX12_cmdByte_36 : decode cX12_cmdByte 36 = .ok (.iadd, 1) := by decide +kernel
theorem dX12_cmdByte_37 : decode cX12_cmdByte 37 = .ok (.goto 7, 3) := by decide +kernel
theorem dX12_cmdByte_0 : decode cX12_cmdByte 0 = .ok (.aload_n 0, 1) := by decide +kernel
theorem dX12_cmdByte_1 : decode cX12_cmdByte 1 = .ok (.getfield 1021, 3) := by decide +kernel
theorem dX12_cmdByte_4 : decode cX12_cmdByte 4 = .ok (.sipush 505, 3) := by decide +kernel
theorem dX12_cmdByte_7 : decode cX12_cmdByte 7 = .ok (.if_icmp .ge 13, 3) := by decide +kernel
theorem dX12_cmdByte_10 : decode cX12_cmdByte 10 = .ok (.aload_n 0, 1) := by decide +kernel
theorem dX12_cmdByte_11 : decode cX12_cmdByte 11 = .ok (.getfield 1035, 3) := by decide +kernel
theorem dX12_cmdByte_14 : decode cX12_cmdByte 14 = .ok (.aload_n 0, 1) := by decide +kernel
theorem dX12_cmdByte_15 : decode cX12_cmdByte 15 = .ok (.getfield 1021, 3) := by decide +kernel
theorem dX12_cmdByte_18 : decode cX12_cmdByte 18 = .ok (.iload_n 1, 1) := by decide +kernel
theorem dX12_cmdByte_19 : decode cX12_cmdByte 19 = .ok (.iastore, 1) := by decide +kernel
def fb_X12_cmdByte_20   (s : uS) : Option uS := if (100000 : Int32) ≤ (s.I 1079 122) then (some (wI s 1079 122 (s.I 1079 122))) else (some (wI s 1079 122 ((s.I 1079 122) + 1)))
set_option maxRecDepth 100000 in
set_option maxHeartbeats 4000000 in
theorem xb_X12_cmdByte_20 {l : Launch} {D : va_G} {A : Nat → ClassId} {B : Nat} {Z : State → Heap → Prop} {vF : Value} (uk : uK B Z vF)    {s : uS} {r : uS}  (h : fb_X12_cmdByte_20   s = some r) : GU l D A B Z mX12_cmdByte 0 (r, none) s 20 [(0, .ref (B + 1079))] [] := by
  unfold fb_X12_cmdByte_20 at h
  refine uu_aload_n dX12_cmdByte_20 rfl (List.mem_of_getElem? (i := 0) rfl) ?_
  refine uu_aload_n dX12_cmdByte_21 rfl (List.mem_of_getElem? (i := 0) rfl) ?_
  refine uu_geti (ci := 12) (N := 153) fX12_1021 (by decide) so_1079.is (by decide) (by decide) dX12_cmdByte_22 ?_
  refine uu_ldcwI (v := 100000) cX12_1038 dX12_cmdByte_25 ?_
  refine uu_icmp_ge (tgt := 40) dX12_cmdByte_28 (by decide) (fun c1 => ?_) (fun c1 => ?_)
  · replace h := uu_pos c1 h
    refine uu_aload_n dX12_cmdByte_40 rfl (List.mem_of_getElem? (i := 0) rfl) ?_
    refine uu_geti (ci := 12) (N := 153) fX12_1021 (by decide) so_1079.is (by decide) (by decide) dX12_cmdByte_41 ?_
    refine uu_puti (ft := .int) (ci := 12) (N := 153) fX12_1021 ptX12 (Or.inl rfl) (by decide) so_1079.is (by decide) (by decide) (by decide +kernel) rfl rfl dX12_cmdByte_44 ?_
    have hr := Option.some.inj h
    subst hr
    exact uu_vret rfl dX12_cmdByte_47
  · replace h := uu_neg c1 h
    refine uu_aload_n dX12_cmdByte_31 rfl (List.mem_of_getElem? (i := 0) rfl) ?_
    refine uu_geti (ci := 12) (N := 153) fX12_1021 (by decide) so_1079.is (by decide) (by decide) dX12_cmdByte_32 ?_
    refine uu_iconst (v := 1) dX12_cmdByte_35 (by decide) ?_
    refine uu_iadd dX12_cmdByte_36 ?_
    refine uu_goto (tgt := 44) dX12_cmdByte_37 (by decide) ?_
    refine uu_puti (ft := .int) (ci := 12) (N := 153) fX12_1021 ptX12 (Or.inl rfl) (by decide) so_1079.is (by decide) (by decide) (by decide +kernel) rfl rfl dX12_cmdByte_44 ?_
    have hr := Option.some.inj h
    subst hr
    exact uu_vret rfl dX12_cmdByte_47
def fn_X12_cmdByte (x1 : Int32) (s : uS) : Option uS := if (505 : Int32) ≤ (s.I 1079 122) then (fb_X12_cmdByte_20 s) else ((iput 20 s 1147 (s.I 1079 122) x1).bind fun s2 => fb_X12_cmdByte_20 s2)
set_option maxRecDepth 100000 in
set_option maxHeartbeats 4000000 in
theorem xc_X12_cmdByte {l : Launch} {D : va_G} {A : Nat → ClassId} {B : Nat} {Z : State → Heap → Prop} {vF : Value} (uk : uK B Z vF) {x1 : Int32} {s : uS} {r : uS}  (h : fn_X12_cmdByte x1 s = some r) : CU l D A B Z 0 mX12_cmdByte s [.ref (B + 1079), .int x1] (r, none) := by
  unfold fn_X12_cmdByte at h
  refine cu_of rfl uk.1.1 (Nat.le_of_ble_eq_true rfl) ?_
  show GU _ _ _ _ _ _ _ _ _ 0 [(0, .ref (B + 1079)), (1, .int x1)] []
  refine uu_aload_n dX12_cmdByte_0 rfl (List.mem_of_getElem? (i := 0) rfl) ?_
  refine uu_geti (ci := 12) (N := 153) fX12_1021 (by decide) so_1079.is (by decide) (by decide) dX12_cmdByte_1 ?_
  refine uu_sipush (v := 505) dX12_cmdByte_4 (by decide) ?_
  refine uu_icmp_ge (tgt := 20) dX12_cmdByte_7 (by decide) (fun c1 => ?_) (fun c1 => ?_)
  · replace h := uu_pos c1 h
    refine uu_lv [0] (lv' := [(0, .ref (B + 1079))]) rfl ?_
    exact xb_X12_cmdByte_20 uk  h
  · replace h := uu_neg c1 h
    refine uu_aload_n dX12_cmdByte_10 rfl (List.mem_of_getElem? (i := 0) rfl) ?_
    refine uu_geta (ci := 12) (N := 153) fX12_1035 (by decide) so_1079.is (by decide) (c := 1147) (by decide) dX12_cmdByte_11 ?_
    refine uu_aload_n dX12_cmdByte_14 rfl (List.mem_of_getElem? (i := 0) rfl) ?_
    refine uu_geti (ci := 12) (N := 153) fX12_1021 (by decide) so_1079.is (by decide) (by decide) dX12_cmdByte_15 ?_
    refine uu_iload_n dX12_cmdByte_18 rfl (List.mem_of_getElem? (i := 1) rfl) ?_
    obtain ⟨s2, e3, h⟩ := uu_ob h
    refine uu_iast e3 dX12_cmdByte_19 ?_
    refine uu_lv [0] (lv' := [(0, .ref (B + 1079))]) rfl ?_
    exact xb_X12_cmdByte_20 uk  h
abbrev mX12_stands : hM := (yX12_stands, cX12_stands, 4, (some (.boolean)))
theorem dX12_stands_70 : decode cX12_stands 70 = .ok (.aload_n 0, 1) := by decide +kernel
theorem dX12_stands_71 : decode cX12_stands 71 = .ok (.iload_n 2, 1) := by decide +kernel
theorem dX12_stands_72 : decode cX12_stands 72 = .ok (.ifCond .eq 15, 3) := by decide +kernel
theorem dX12_stands_87 : decode cX12_stands 87 = .ok (.aload_n 0, 1) := by decide +kernel
theorem fX12_1068 : h_fl RX12 1068 12 127 RX12 TX12 153 := ⟨rfl, by decide, inX12, h_t12 88 rfl rfl⟩
theorem dX12_stands_88 : decode cX12_stands 88 = .ok (.getfield 1068, 3) := by decide +kernel
theorem dX12_stands_91 : decode cX12_stands 91 = .ok (.putfield 1068, 3) := by decide +kernel
theorem dX12_stands_94 : decode cX12_stands 94 = .ok (.iload_n 2, 1) := by decide +kernel
theorem dX12_stands_95 : decode cX12_stands 95 = .ok (.ireturn, 1) := by decide +kernel
theorem dX12_stands_75 : decode cX12_stands 75 = .ok (.aload_n 0, 1) := by decide +kernel
theorem dX12_stands_76 : decode cX12_stands 76 = .ok (.getfield 1068, 3) := by decide +kernel
theorem dX12_stands_79 : decode cX12_stands 79 = .ok (.aload_n 1, 1) := by decide +kernel
theorem dX12_stands_80 : decode cX12_stands 80 = .ok (.invokevirtual 58, 3) := by decide +kernel
theorem dX12_stands_83 : decode cX12_stands 83 = .ok (.iadd, 1) := by decide +kernel
theorem dX12_stands_84 : decode cX12_stands 84 = .ok (.goto 7, 3) := by decide +kernel
theorem dX12_stands_24 : decode cX12_stands 24 = .ok (.iload_n 3, 1) := by decide +kernel
theorem dX12_stands_25 : decode cX12_stands 25 = .ok (.aload_n 1, 1) := by decide +kernel
theorem dX12_stands_26 : decode cX12_stands 26 = .ok (.invokevirtual 58, 3) := by decide +kernel
theorem dX12_stands_29 : decode cX12_stands 29 = .ok (.if_icmp .ge 41, 3) := by decide +kernel
theorem dX12_stands_32 : decode cX12_stands 32 = .ok (.iload_n 2, 1) := by decide +kernel
theorem dX12_stands_33 : decode cX12_stands 33 = .ok (.ifCond .eq 37, 3) := by decide +kernel
theorem dX12_stands_36 : decode cX12_stands 36 = .ok (.aload_n 0, 1) := by decide +kernel
theorem dX12_stands_37 : decode cX12_stands 37 = .ok (.getfield 1035, 3) := by decide +kernel
theorem dX12_stands_40 : decode cX12_stands 40 = .ok (.aload_n 0, 1) := by decide +kernel
theorem dX12_stands_41 : decode cX12_stands 41 = .ok (.getfield 1068, 3) := by decide +kernel
theorem dX12_stands_44 : decode cX12_stands 44 = .ok (.iload_n 3, 1) := by decide +kernel
theorem dX12_stands_45 : decode cX12_stands 45 = .ok (.iadd, 1) := by decide +kernel
theorem dX12_stands_46 : decode cX12_stands 46 = .ok (.iaload, 1) := by decide +kernel
theorem dX12_stands_47 : decode cX12_stands 47 = .ok (.invokestatic 119, 3) := by decide +kernel
theorem dX12_stands_50 : decode cX12_stands 50 = .ok (.aload_n 1, 1) := by decide +kernel
theorem dX12_stands_51 : decode cX12_stands 51 = .ok (.iload_n 3, 1) := by decide +kernel
theorem dX12_stands_52 : decode cX12_stands 52 = .ok (.invokevirtual 64, 3) := by decide +kernel
theorem dX12_stands_55 : decode cX12_stands 55 = .ok (.if_icmp .ne 7, 3) := by decide +kernel
theorem dX12_stands_62 : decode cX12_stands 62 = .ok (.iconst 0, 1) := by decide +kernel
theorem dX12_stands_63 : decode cX12_stands 63 = .ok (.istore_n 2, 1) := by decide +kernel
theorem dX12_stands_64 : decode cX12_stands 64 = .ok (.iinc 3 1, 3) := by decide +kernel
theorem dX12_stands_67 : decode cX12_stands 67 = .ok (.goto (-43), 3) := by decide +kernel
theorem dX12_stands_58 : decode cX12_stands 58 = .ok (.iconst 1, 1) := by decide +kernel
theorem dX12_stands_59 : decode cX12_stands 59 = .ok (.goto 4, 3) := by decide +kernel
theorem dX12_stands_0 : decode cX12_stands 0 = .ok (.aload_n 0, 1) := by decide +kernel
theorem dX12_stands_1 : decode cX12_stands 1 = .ok (.getfield 1068, 3) := by decide +kernel
theorem dX12_stands_4 : decode cX12_stands 4 = .ok (.aload_n 1, 1) := by decide +kernel
theorem dX12_stands_5 : decode cX12_stands 5 = .ok (.invokevirtual 58, 3) := by decide +kernel
theorem dX12_stands_8 : decode cX12_stands 8 = .ok (.iadd, 1) := by decide +kernel
theorem dX12_stands_9 : decode cX12_stands 9 = .ok (.aload_n 0, 1) := by decide +kernel
theorem fX12_1071 : h_fl RX12 1071 12 126 RX12 TX12 153 := ⟨rfl, by decide, inX12, h_t12 87 rfl rfl⟩
theorem dX12_stands_10 : decode cX12_stands 10 = .ok (.getfield 1071, 3) := by decide +kernel
theorem dX12_stands_13 : decode cX12_stands 13 = .ok (.if_icmp .gt 7, 3) := by decide +kernel
theorem dX12_stands_20 : decode cX12_stands 20 = .ok (.iconst 0, 1) := by decide +kernel
theorem dX12_stands_21 : decode cX12_stands 21 = .ok (.istore_n 2, 1) := by decide +kernel
theorem dX12_stands_22 : decode cX12_stands 22 = .ok (.iconst 0, 1) := by decide +kernel
theorem dX12_stands_23 : decode cX12_stands 23 = .ok (.istore_n 3, 1) := by decide +kernel
theorem dX12_stands_16 : decode cX12_stands 16 = .ok (.iconst 1, 1) := by decide +kernel
theorem dX12_stands_17 : decode cX12_stands 17 = .ok (.goto 4, 3) := by decide +kernel
def fb_X12_stands_70  (w1 : List Nat) (b2 : Bool) (s : uS) : Option (uS × Bool) := if b2 = true then (some (wI s 1079 127 ((s.I 1079 127) + (nI w1.length)), b2)) else (some (wI s 1079 127 (s.I 1079 127), b2))
set_option maxRecDepth 100000 in
set_option maxHeartbeats 4000000 in
theorem xb_X12_stands_70 {l : Launch} {D : va_G} {A : Nat → ClassId} {B : Nat} {Z : State → Heap → Prop} {vF : Value} (uk : uK B Z vF)   {w1 : List Nat} {b2 : Bool} {s : uS} {r : (uS × Bool)} {qw1 pw1 : Nat} (hw1 : uStr B Z qw1 pw1 w1) (h : fb_X12_stands_70  w1 b2 s = some r) : GU l D A B Z mX12_stands 4 (r.1, some (.int (bI r.2))) s 70 [(0, .ref (B + 1079)), (1, .ref qw1), (2, .int (bI b2))] [] := by
  unfold fb_X12_stands_70 at h
  refine uu_aload_n dX12_stands_70 rfl (List.mem_of_getElem? (i := 0) rfl) ?_
  refine uu_iload_n dX12_stands_71 rfl (List.mem_of_getElem? (i := 2) rfl) ?_
  refine uu_ifb_eq (tgt := 87) dX12_stands_72 (by decide) (fun c1 => ?_) (fun c1 => ?_)
  · replace h := uu_neg c1 h
    refine uu_aload_n dX12_stands_87 rfl (List.mem_of_getElem? (i := 0) rfl) ?_
    refine uu_geti (ci := 12) (N := 153) fX12_1068 (by decide) so_1079.is (by decide) (by decide) dX12_stands_88 ?_
    refine uu_puti (ft := .int) (ci := 12) (N := 153) fX12_1068 ptX12 (Or.inl rfl) (by decide) so_1079.is (by decide) (by decide) (by decide +kernel) rfl rfl dX12_stands_91 ?_
    refine uu_iload_n dX12_stands_94 rfl (List.mem_of_getElem? (i := 2) rfl) ?_
    have hr := Option.some.inj h
    subst hr
    exact uu_zret (x := bI b2) rfl (bI_z _) dX12_stands_95
  · replace h := uu_pos c1 h
    refine uu_aload_n dX12_stands_75 rfl (List.mem_of_getElem? (i := 0) rfl) ?_
    refine uu_geti (ci := 12) (N := 153) fX12_1068 (by decide) so_1079.is (by decide) (by decide) dX12_stands_76 ?_
    refine uu_aload_n dX12_stands_79 rfl (List.mem_of_getElem? (i := 1) rfl) ?_
    refine uu_slen uk hw1 lX12_58 (by decide) (Nat.le_of_ble_eq_true rfl) dX12_stands_80 ?_
    refine uu_iadd dX12_stands_83 ?_
    refine uu_goto (tgt := 91) dX12_stands_84 (by decide) ?_
    refine uu_puti (ft := .int) (ci := 12) (N := 153) fX12_1068 ptX12 (Or.inl rfl) (by decide) so_1079.is (by decide) (by decide) (by decide +kernel) rfl rfl dX12_stands_91 ?_
    refine uu_iload_n dX12_stands_94 rfl (List.mem_of_getElem? (i := 2) rfl) ?_
    have hr := Option.some.inj h
    subst hr
    exact uu_zret (x := bI b2) rfl (bI_z _) dX12_stands_95
def fb_X12_stands_24 (K24 : List Nat → Bool → Int32 → uS → Option (uS × Bool)) (w1 : List Nat) (b2 : Bool) (x3 : Int32) (s : uS) : Option (uS × Bool) := if (nI w1.length) ≤ x3 then (fb_X12_stands_70 w1 b2 s) else (if b2 = true then ((iget 20 s 1147 ((s.I 1079 127) + x3)).bind fun v3 => (fn_X12_low v3 s).bind fun v5 => (stget w1 x3).bind fun v7 => if v5 = v7 then (K24 w1 true (x3 + 1) s) else (K24 w1 false (x3 + 1) s)) else (fb_X12_stands_70 w1 b2 s))
set_option maxRecDepth 100000 in
set_option maxHeartbeats 4000000 in
theorem xb_X12_stands_24 {l : Launch} {D : va_G} {A : Nat → ClassId} {B : Nat} {Z : State → Heap → Prop} {vF : Value} (uk : uK B Z vF) {K24 : List Nat → Bool → Int32 → uS → Option (uS × Bool)} (hK24 : ∀ (w1 : List Nat) (b2 : Bool) (x3 : Int32) {qw1 pw1 : Nat} (hw1 : uStr B Z qw1 pw1 w1) (s : uS) (r : (uS × Bool)), K24 w1 b2 x3 s = some r → GU l D A B Z mX12_stands 4 (r.1, some (.int (bI r.2))) s 24 [(0, .ref (B + 1079)), (1, .ref qw1), (2, .int (bI b2)), (3, .int x3)] []) {w1 : List Nat} {b2 : Bool} {x3 : Int32} {s : uS} {r : (uS × Bool)} {qw1 pw1 : Nat} (hw1 : uStr B Z qw1 pw1 w1) (h : fb_X12_stands_24 K24 w1 b2 x3 s = some r) : GU l D A B Z mX12_stands 4 (r.1, some (.int (bI r.2))) s 24 [(0, .ref (B + 1079)), (1, .ref qw1), (2, .int (bI b2)), (3, .int x3)] [] := by
  unfold fb_X12_stands_24 at h
  refine uu_iload_n dX12_stands_24 rfl (List.mem_of_getElem? (i := 3) rfl) ?_
  refine uu_aload_n dX12_stands_25 rfl (List.mem_of_getElem? (i := 1) rfl) ?_
  refine uu_slen uk hw1 lX12_58 (by decide) (Nat.le_of_ble_eq_true rfl) dX12_stands_26 ?_
  refine uu_icmp_ge (tgt := 70) dX12_stands_29 (by decide) (fun c1 => ?_) (fun c1 => ?_)
  · replace h := uu_pos c1 h
    refine uu_lv [0, 1, 2] (lv' := [(0, .ref (B + 1079)), (1, .ref qw1), (2, .int (bI b2))]) rfl ?_
    exact xb_X12_stands_70 uk hw1 h
  · replace h := uu_neg c1 h
    refine uu_iload_n dX12_stands_32 rfl (List.mem_of_getElem? (i := 2) rfl) ?_
    refine uu_ifb_eq (tgt := 70) dX12_stands_33 (by decide) (fun c2 => ?_) (fun c2 => ?_)
    · replace h := uu_neg c2 h
      refine uu_lv [0, 1, 2] (lv' := [(0, .ref (B + 1079)), (1, .ref qw1), (2, .int (bI b2))]) rfl ?_
      exact xb_X12_stands_70 uk hw1 h
    · replace h := uu_pos c2 h
      refine uu_aload_n dX12_stands_36 rfl (List.mem_of_getElem? (i := 0) rfl) ?_
      refine uu_geta (ci := 12) (N := 153) fX12_1035 (by decide) so_1079.is (by decide) (c := 1147) (by decide) dX12_stands_37 ?_
      refine uu_aload_n dX12_stands_40 rfl (List.mem_of_getElem? (i := 0) rfl) ?_
      refine uu_geti (ci := 12) (N := 153) fX12_1068 (by decide) so_1079.is (by decide) (by decide) dX12_stands_41 ?_
      refine uu_iload_n dX12_stands_44 rfl (List.mem_of_getElem? (i := 3) rfl) ?_
      refine uu_iadd dX12_stands_45 ?_
      obtain ⟨v3, e4, h⟩ := uu_ob h
      refine uu_iald e4 dX12_stands_46 ?_
      obtain ⟨v5, e6, h⟩ := uu_ob h
      refine uu_cs (d1 := 0) (As := [.int v3]) (st := []) (st' := [.int v5]) (xc_X12_low uk  e6) kX12_low lX12_119 sX12_low (by decide) (Nat.le_of_ble_eq_true rfl) dX12_stands_47 rfl ?_
      refine uu_aload_n dX12_stands_50 rfl (List.mem_of_getElem? (i := 1) rfl) ?_
      refine uu_iload_n dX12_stands_51 rfl (List.mem_of_getElem? (i := 3) rfl) ?_
      obtain ⟨v7, e8, h⟩ := uu_ob h
      refine uu_sch uk hw1 e8 lX12_64 (by decide) (Nat.le_of_ble_eq_true rfl) dX12_stands_52 ?_
      refine uu_icmp_ne (tgt := 62) dX12_stands_55 (by decide) (fun c9 => ?_) (fun c9 => ?_)
      · replace h := uu_neg c9 h
        refine uu_iconst (v := 0) dX12_stands_62 (by decide) ?_
        refine uu_istore_n dX12_stands_63 rfl (by decide) rfl ?_
        refine uu_iinc (v := x3 + 1) dX12_stands_64 (k := 3) rfl rfl (by decide) rfl ?_
        refine uu_goto (tgt := 24) dX12_stands_67 (by decide) ?_
        refine uu_lv [2, 3, 1, 0] (lv' := [(0, .ref (B + 1079)), (1, .ref qw1), (2, .int 0), (3, .int (x3 + 1))]) rfl ?_
        exact hK24 w1 false (x3 + 1) hw1 _ _ h
      · replace h := uu_pos c9 h
        refine uu_iconst (v := 1) dX12_stands_58 (by decide) ?_
        refine uu_goto (tgt := 63) dX12_stands_59 (by decide) ?_
        refine uu_istore_n dX12_stands_63 rfl (by decide) rfl ?_
        refine uu_iinc (v := x3 + 1) dX12_stands_64 (k := 3) rfl rfl (by decide) rfl ?_
        refine uu_goto (tgt := 24) dX12_stands_67 (by decide) ?_
        refine uu_lv [2, 3, 1, 0] (lv' := [(0, .ref (B + 1079)), (1, .ref qw1), (2, .int 1), (3, .int (x3 + 1))]) rfl ?_
        exact hK24 w1 true (x3 + 1) hw1 _ _ h
def fn_X12_stands_24  : Nat → List Nat → Bool → Int32 → uS → Option (uS × Bool)
  | 0 => fun _ _ _ _ => none
  | n + 1 => fb_X12_stands_24 (fn_X12_stands_24  n)
set_option maxRecDepth 100000 in
set_option maxHeartbeats 4000000 in
theorem xn_X12_stands_24 {l : Launch} {D : va_G} {A : Nat → ClassId} {B : Nat} {Z : State → Heap → Prop} {vF : Value} (uk : uK B Z vF)   : ∀ (n : Nat) (w1 : List Nat) (b2 : Bool) (x3 : Int32) {qw1 pw1 : Nat} (hw1 : uStr B Z qw1 pw1 w1) (s : uS) (r : (uS × Bool)), fn_X12_stands_24  n w1 b2 x3 s = some r → GU l D A B Z mX12_stands 4 (r.1, some (.int (bI r.2))) s 24 [(0, .ref (B + 1079)), (1, .ref qw1), (2, .int (bI b2)), (3, .int x3)] [] := by
  intro n
  induction n with
  | zero => intro w1 b2 x3 qw1 pw1 hw1 s r h
            cases h
  | succ n ih => intro w1 b2 x3 qw1 pw1 hw1 s r h
                 exact xb_X12_stands_24 uk ih hw1 h
def fn_X12_stands (w1 : List Nat) (s : uS) : Option (uS × Bool) := if (s.I 1079 126) < ((s.I 1079 127) + (nI w1.length)) then (fn_X12_stands_24 uFu w1 false 0 s) else (fn_X12_stands_24 uFu w1 true 0 s)
set_option maxRecDepth 100000 in
set_option maxHeartbeats 4000000 in
theorem xc_X12_stands {l : Launch} {D : va_G} {A : Nat → ClassId} {B : Nat} {Z : State → Heap → Prop} {vF : Value} (uk : uK B Z vF) {w1 : List Nat} {s : uS} {r : (uS × Bool)} {qw1 pw1 : Nat} (hw1 : uStr B Z qw1 pw1 w1) (h : fn_X12_stands w1 s = some r) : CU l D A B Z 4 mX12_stands s [.ref (B + 1079), .ref qw1] (r.1, some (.int (bI r.2))) := by
  unfold fn_X12_stands at h
  refine cu_of rfl uk.1.1 (Nat.le_of_ble_eq_true rfl) ?_
  show GU _ _ _ _ _ _ _ _ _ 0 [(0, .ref (B + 1079)), (1, .ref qw1)] []
  refine uu_aload_n dX12_stands_0 rfl (List.mem_of_getElem? (i := 0) rfl) ?_
  refine uu_geti (ci := 12) (N := 153) fX12_1068 (by decide) so_1079.is (by decide) (by decide) dX12_stands_1 ?_
  refine uu_aload_n dX12_stands_4 rfl (List.mem_of_getElem? (i := 1) rfl) ?_
  refine uu_slen uk hw1 lX12_58 (by decide) (Nat.le_of_ble_eq_true rfl) dX12_stands_5 ?_
  refine uu_iadd dX12_stands_8 ?_
  refine uu_aload_n dX12_stands_9 rfl (List.mem_of_getElem? (i := 0) rfl) ?_
  refine uu_geti (ci := 12) (N := 153) fX12_1071 (by decide) so_1079.is (by decide) (by decide) dX12_stands_10 ?_
  refine uu_icmp_gt (tgt := 20) dX12_stands_13 (by decide) (fun c1 => ?_) (fun c1 => ?_)
  · replace h := uu_pos c1 h
    refine uu_iconst (v := 0) dX12_stands_20 (by decide) ?_
    refine uu_istore_n dX12_stands_21 rfl (by decide) rfl ?_
    refine uu_iconst (v := 0) dX12_stands_22 (by decide) ?_
    refine uu_istore_n dX12_stands_23 rfl (by decide) rfl ?_
    refine uu_lv [2, 3, 1, 0] (lv' := [(0, .ref (B + 1079)), (1, .ref qw1), (2, .int 0), (3, .int 0)]) rfl ?_
    exact xn_X12_stands_24 uk  _ _ _ _ hw1 _ _ h
  · replace h := uu_neg c1 h
    refine uu_iconst (v := 1) dX12_stands_16 (by decide) ?_
    refine uu_goto (tgt := 21) dX12_stands_17 (by decide) ?_
    refine uu_istore_n dX12_stands_21 rfl (by decide) rfl ?_
    refine uu_iconst (v := 0) dX12_stands_22 (by decide) ?_
    refine uu_istore_n dX12_stands_23 rfl (by decide) rfl ?_
    refine uu_lv [2, 3, 1, 0] (lv' := [(0, .ref (B + 1079)), (1, .ref qw1), (2, .int 1), (3, .int 0)]) rfl ?_
    exact xn_X12_stands_24 uk  _ _ _ _ hw1 _ _ h
abbrev mX12_first : hM := (yX12_first, cX12_first, 2, (some (.boolean)))
theorem dX12_first_0 : decode cX12_first 0 = .ok (.aload_n 0, 1) := by decide +kernel
theorem dX12_first_1 : decode cX12_first 1 = .ok (.iconst 0, 1) := by decide +kernel
theorem dX12_first_2 : decode cX12_first 2 = .ok (.putfield 1068, 3) := by decide +kernel
theorem dX12_first_5 : decode cX12_first 5 = .ok (.aload_n 0, 1) := by decide +kernel
theorem dX12_first_6 : decode cX12_first 6 = .ok (.aload_n 1, 1) := by decide +kernel
theorem kX12_stands : h_ml mX12_stands 1 := ⟨h_t10 191 rfl rfl, h_t1 16 rfl rfl, ⟨by decide, by decide, by decide +kernel⟩, by decide⟩
theorem lX12_1074 : Cond.methodLink RX12 1074 mX12_stands.1 ∈ lw_g := h_t10 188 rfl rfl
theorem sX12_stands : Cond.instanceMethod mX12_stands.1 ∈ lw_g ∧ Cond.selects mX12_stands.1.cls mX12_stands.1 mX12_stands.1 ∈ lw_g := ⟨h_t10 190 rfl rfl, h_ins 239 rfl⟩
theorem dX12_first_7 : decode cX12_first 7 = .ok (.invokevirtual 1074, 3) := by decide +kernel
theorem dX12_first_10 : decode cX12_first 10 = .ok (.ifCond .eq 32, 3) := by decide +kernel
theorem dX12_first_42 : decode cX12_first 42 = .ok (.iconst 0, 1) := by decide +kernel
theorem dX12_first_43 : decode cX12_first 43 = .ok (.ireturn, 1) := by decide +kernel
theorem dX12_first_13 : decode cX12_first 13 = .ok (.aload_n 0, 1) := by decide +kernel
theorem dX12_first_14 : decode cX12_first 14 = .ok (.getfield 1068, 3) := by decide +kernel
theorem dX12_first_17 : decode cX12_first 17 = .ok (.aload_n 0, 1) := by decide +kernel
theorem dX12_first_18 : decode cX12_first 18 = .ok (.getfield 1071, 3) := by decide +kernel
theorem dX12_first_21 : decode cX12_first 21 = .ok (.if_icmp .eq 17, 3) := by decide +kernel
theorem dX12_first_38 : decode cX12_first 38 = .ok (.iconst 1, 1) := by decide +kernel
theorem dX12_first_39 : decode cX12_first 39 = .ok (.goto 4, 3) := by decide +kernel
theorem dX12_first_24 : decode cX12_first 24 = .ok (.aload_n 0, 1) := by decide +kernel
theorem dX12_first_25 : decode cX12_first 25 = .ok (.getfield 1035, 3) := by decide +kernel
theorem dX12_first_28 : decode cX12_first 28 = .ok (.aload_n 0, 1) := by decide +kernel
theorem dX12_first_29 : decode cX12_first 29 = .ok (.getfield 1068, 3) := by decide +kernel
theorem dX12_first_32 : decode cX12_first 32 = .ok (.iaload, 1) := by decide +kernel
theorem dX12_first_33 : decode cX12_first 33 = .ok (.bipush 32, 2) := by decide +kernel
theorem dX12_first_35 : decode cX12_first 35 = .ok (.if_icmp .ne 7, 3) := by decide +kernel
def fn_X12_first (w1 : List Nat) (s : uS) : Option (uS × Bool) := (fn_X12_stands w1 (wI s 1079 127 0)).bind fun r1 => if r1.2 = true then (if (r1.1.I 1079 127) = (r1.1.I 1079 126) then (some (r1.1, true)) else ((iget 20 r1.1 1147 (r1.1.I 1079 127)).bind fun v5 => if v5 = 32 then (some (r1.1, true)) else (some (r1.1, false)))) else (some (r1.1, false))
set_option maxRecDepth 100000 in
set_option maxHeartbeats 4000000 in
theorem xc_X12_first {l : Launch} {D : va_G} {A : Nat → ClassId} {B : Nat} {Z : State → Heap → Prop} {vF : Value} (uk : uK B Z vF) {w1 : List Nat} {s : uS} {r : (uS × Bool)} {qw1 pw1 : Nat} (hw1 : uStr B Z qw1 pw1 w1) (h : fn_X12_first w1 s = some r) : CU l D A B Z 5 mX12_first s [.ref (B + 1079), .ref qw1] (r.1, some (.int (bI r.2))) := by
  unfold fn_X12_first at h
  refine cu_of rfl uk.1.1 (Nat.le_of_ble_eq_true rfl) ?_
  show GU _ _ _ _ _ _ _ _ _ 0 [(0, .ref (B + 1079)), (1, .ref qw1)] []
  refine uu_aload_n dX12_first_0 rfl (List.mem_of_getElem? (i := 0) rfl) ?_
  refine uu_iconst (v := 0) dX12_first_1 (by decide) ?_
  refine uu_puti (ft := .int) (ci := 12) (N := 153) fX12_1068 ptX12 (Or.inl rfl) (by decide) so_1079.is (by decide) (by decide) (by decide +kernel) rfl rfl dX12_first_2 ?_
  refine uu_aload_n dX12_first_5 rfl (List.mem_of_getElem? (i := 0) rfl) ?_
  refine uu_aload_n dX12_first_6 rfl (List.mem_of_getElem? (i := 1) rfl) ?_
  obtain ⟨r1, e2, h⟩ := uu_ob h
  refine uu_cv (d1 := 4) (k := 1079) (ci := 12) (T := TX12) (N := 153) (As := [.ref qw1]) (st := []) (st' := [.int (bI r1.2)]) (xc_X12_stands uk hw1 e2) so_1079.is (by decide) rfl kX12_stands lX12_1074 sX12_stands (by decide) (Nat.le_of_ble_eq_true rfl) dX12_first_7 rfl ?_
  refine uu_ifb_eq (tgt := 42) dX12_first_10 (by decide) (fun c3 => ?_) (fun c3 => ?_)
  · replace h := uu_neg c3 h
    refine uu_iconst (v := 0) dX12_first_42 (by decide) ?_
    have hr := Option.some.inj h
    subst hr
    exact uu_zret (x := bI false) rfl (bI_z _) dX12_first_43
  · replace h := uu_pos c3 h
    refine uu_aload_n dX12_first_13 rfl (List.mem_of_getElem? (i := 0) rfl) ?_
    refine uu_geti (ci := 12) (N := 153) fX12_1068 (by decide) so_1079.is (by decide) (by decide) dX12_first_14 ?_
    refine uu_aload_n dX12_first_17 rfl (List.mem_of_getElem? (i := 0) rfl) ?_
    refine uu_geti (ci := 12) (N := 153) fX12_1071 (by decide) so_1079.is (by decide) (by decide) dX12_first_18 ?_
    refine uu_icmp_eq (tgt := 38) dX12_first_21 (by decide) (fun c4 => ?_) (fun c4 => ?_)
    · replace h := uu_pos c4 h
      refine uu_iconst (v := 1) dX12_first_38 (by decide) ?_
      refine uu_goto (tgt := 43) dX12_first_39 (by decide) ?_
      have hr := Option.some.inj h
      subst hr
      exact uu_zret (x := bI true) rfl (bI_z _) dX12_first_43
    · replace h := uu_neg c4 h
      refine uu_aload_n dX12_first_24 rfl (List.mem_of_getElem? (i := 0) rfl) ?_
      refine uu_geta (ci := 12) (N := 153) fX12_1035 (by decide) so_1079.is (by decide) (c := 1147) (by decide) dX12_first_25 ?_
      refine uu_aload_n dX12_first_28 rfl (List.mem_of_getElem? (i := 0) rfl) ?_
      refine uu_geti (ci := 12) (N := 153) fX12_1068 (by decide) so_1079.is (by decide) (by decide) dX12_first_29 ?_
      obtain ⟨v5, e6, h⟩ := uu_ob h
      refine uu_iald e6 dX12_first_32 ?_
      refine uu_bipush (v := 32) dX12_first_33 (by decide) ?_
      refine uu_icmp_ne (tgt := 42) dX12_first_35 (by decide) (fun c7 => ?_) (fun c7 => ?_)
      · replace h := uu_neg c7 h
        refine uu_iconst (v := 0) dX12_first_42 (by decide) ?_
        have hr := Option.some.inj h
        subst hr
        exact uu_zret (x := bI false) rfl (bI_z _) dX12_first_43
      · replace h := uu_pos c7 h
        refine uu_iconst (v := 1) dX12_first_38 (by decide) ?_
        refine uu_goto (tgt := 43) dX12_first_39 (by decide) ?_
        have hr := Option.some.inj h
        subst hr
        exact uu_zret (x := bI true) rfl (bI_z _) dX12_first_43
abbrev mX12_done : hM := (yX12_done, cX12_done, 2, (some (.boolean)))
theorem dX12_done_20 : decode cX12_done 20 = .ok (.invokevirtual 974, 3) := by decide +kernel
theorem dX12_done_23 : decode cX12_done 23 = .ok (.aload_n 0, 1) := by decide +kernel
theorem dX12_done_24 : decode cX12_done 24 = .ok (.getfield 1068, 3) := by decide +kernel
theorem dX12_done_27 : decode cX12_done 27 = .ok (.aload_n 0, 1) := by decide +kernel
theorem dX12_done_28 : decode cX12_done 28 = .ok (.getfield 1071, 3) := by decide +kernel
theorem dX12_done_31 : decode cX12_done 31 = .ok (.if_icmp .ne 7, 3) := by decide +kernel
theorem dX12_done_38 : decode cX12_done 38 = .ok (.iconst 0, 1) := by decide +kernel
theorem dX12_done_39 : decode cX12_done 39 = .ok (.ireturn, 1) := by decide +kernel
theorem dX12_done_34 : decode cX12_done 34 = .ok (.iconst 1, 1) := by decide +kernel
theorem dX12_done_35 : decode cX12_done 35 = .ok (.goto 4, 3) := by decide +kernel
theorem dX12_done_0 : decode cX12_done 0 = .ok (.aload_n 0, 1) := by decide +kernel
theorem dX12_done_1 : decode cX12_done 1 = .ok (.iconst 4, 1) := by decide +kernel
theorem dX12_done_2 : decode cX12_done 2 = .ok (.aload_n 0, 1) := by decide +kernel
theorem dX12_done_3 : decode cX12_done 3 = .ok (.getfield 1068, 3) := by decide +kernel
theorem dX12_done_6 : decode cX12_done 6 = .ok (.aload_n 0, 1) := by decide +kernel
theorem dX12_done_7 : decode cX12_done 7 = .ok (.getfield 1071, 3) := by decide +kernel
theorem dX12_done_10 : decode cX12_done 10 = .ok (.if_icmp .ne 7, 3) := by decide +kernel
theorem dX12_done_17 : decode cX12_done 17 = .ok (.ldc_w 1077, 3) := by decide +kernel
theorem dX12_done_13 : decode cX12_done 13 = .ok (.aload_n 1, 1) := by decide +kernel
theorem dX12_done_14 : decode cX12_done 14 = .ok (.goto 6, 3) := by decide +kernel
def fb_X12_done_20  (ws0 : List Nat) (xs1 : Int32) (s : uS) : Option (uS × Bool) := (fn_X12_line xs1 ws0 s).bind fun s1 => if (s1.I 1079 127) = (s1.I 1079 126) then (some (s1, true)) else (some (s1, false))
set_option maxRecDepth 100000 in
set_option maxHeartbeats 4000000 in
theorem xb_X12_done_20 {l : Launch} {D : va_G} {A : Nat → ClassId} {B : Nat} {Z : State → Heap → Prop} {vF : Value} (uk : uK B Z vF)   {ws0 : List Nat} {xs1 : Int32} {s : uS} {r : (uS × Bool)} {qws0 pws0 : Nat} (hws0 : uStr B Z qws0 pws0 ws0) (h : fb_X12_done_20  ws0 xs1 s = some r) : GU l D A B Z mX12_done 6 (r.1, some (.int (bI r.2))) s 20 [(0, .ref (B + 1079))] [.ref qws0, .int xs1, .ref (B + 1079)] := by
  unfold fb_X12_done_20 at h
  obtain ⟨s1, e2, h⟩ := uu_ob h
  refine uu_cv (d1 := 5) (k := 1079) (ci := 12) (T := TX12) (N := 153) (As := [.int xs1, .ref qws0]) (st := []) (st' := []) (xc_X12_line uk hws0 e2) so_1079.is (by decide) rfl kX12_line lX12_974 sX12_line (by decide) (Nat.le_of_ble_eq_true rfl) dX12_done_20 rfl ?_
  refine uu_aload_n dX12_done_23 rfl (List.mem_of_getElem? (i := 0) rfl) ?_
  refine uu_geti (ci := 12) (N := 153) fX12_1068 (by decide) so_1079.is (by decide) (by decide) dX12_done_24 ?_
  refine uu_aload_n dX12_done_27 rfl (List.mem_of_getElem? (i := 0) rfl) ?_
  refine uu_geti (ci := 12) (N := 153) fX12_1071 (by decide) so_1079.is (by decide) (by decide) dX12_done_28 ?_
  refine uu_icmp_ne (tgt := 38) dX12_done_31 (by decide) (fun c3 => ?_) (fun c3 => ?_)
  · replace h := uu_neg c3 h
    refine uu_iconst (v := 0) dX12_done_38 (by decide) ?_
    have hr := Option.some.inj h
    subst hr
    exact uu_zret (x := bI false) rfl (bI_z _) dX12_done_39
  · replace h := uu_pos c3 h
    refine uu_iconst (v := 1) dX12_done_34 (by decide) ?_
    refine uu_goto (tgt := 39) dX12_done_35 (by decide) ?_
    have hr := Option.some.inj h
    subst hr
    exact uu_zret (x := bI true) rfl (bI_z _) dX12_done_39
def fn_X12_done (w1 : List Nat) (s : uS) : Option (uS × Bool) := if (s.I 1079 127) = (s.I 1079 126) then (fb_X12_done_20 w1 4 s) else (fb_X12_done_20 kW_165 4 s)
set_option maxRecDepth 100000 in
set_option maxHeartbeats 4000000 in
theorem xc_X12_done {l : Launch} {D : va_G} {A : Nat → ClassId} {B : Nat} {Z : State → Heap → Prop} {vF : Value} (uk : uK B Z vF) {w1 : List Nat} {s : uS} {r : (uS × Bool)} {qw1 pw1 : Nat} (hw1 : uStr B Z qw1 pw1 w1) (h : fn_X12_done w1 s = some r) : CU l D A B Z 6 mX12_done s [.ref (B + 1079), .ref qw1] (r.1, some (.int (bI r.2))) := by
  unfold fn_X12_done at h
  refine cu_of rfl uk.1.1 (Nat.le_of_ble_eq_true rfl) ?_
  show GU _ _ _ _ _ _ _ _ _ 0 [(0, .ref (B + 1079)), (1, .ref qw1)] []
  refine uu_aload_n dX12_done_0 rfl (List.mem_of_getElem? (i := 0) rfl) ?_
  refine uu_iconst (v := 4) dX12_done_1 (by decide) ?_
  refine uu_aload_n dX12_done_2 rfl (List.mem_of_getElem? (i := 0) rfl) ?_
  refine uu_geti (ci := 12) (N := 153) fX12_1068 (by decide) so_1079.is (by decide) (by decide) dX12_done_3 ?_
  refine uu_aload_n dX12_done_6 rfl (List.mem_of_getElem? (i := 0) rfl) ?_
  refine uu_geti (ci := 12) (N := 153) fX12_1071 (by decide) so_1079.is (by decide) (by decide) dX12_done_7 ?_
  refine uu_icmp_ne (tgt := 17) dX12_done_10 (by decide) (fun c1 => ?_) (fun c1 => ?_)
  · replace h := uu_neg c1 h
    obtain ⟨cq2, cp2, cv2, cw2⟩ := uk.2.1 165 _ rfl
    refine uu_ldcwS cv2 dX12_done_17 ?_
    refine uu_lv [0] (lv' := [(0, .ref (B + 1079))]) rfl ?_
    exact xb_X12_done_20 uk cw2 h
  · replace h := uu_pos c1 h
    refine uu_aload_n dX12_done_13 rfl (List.mem_of_getElem? (i := 1) rfl) ?_
    refine uu_goto (tgt := 20) dX12_done_14 (by decide) ?_
    refine uu_lv [0] (lv' := [(0, .ref (B + 1079))]) rfl ?_
    exact xb_X12_done_20 uk hw1 h
abbrev mX12_oneCmd : hM := (yX12_oneCmd, cX12_oneCmd, 4, none)
theorem dX12_oneCmd_9 : decode cX12_oneCmd 9 = .ok (.iload_n 3, 1) := by decide +kernel
theorem dX12_oneCmd_10 : decode cX12_oneCmd 10 = .ok (.aload_n 0, 1) := by decide +kernel
theorem dX12_oneCmd_11 : decode cX12_oneCmd 11 = .ok (.getfield 110, 3) := by decide +kernel
theorem dX12_oneCmd_14 : decode cX12_oneCmd 14 = .ok (.if_icmp .ge 23, 3) := by decide +kernel
theorem dX12_oneCmd_37 : decode cX12_oneCmd 37 = .ok (.return_, 1) := by decide +kernel
theorem dX12_oneCmd_17 : decode cX12_oneCmd 17 = .ok (.aload_n 0, 1) := by decide +kernel
theorem dX12_oneCmd_18 : decode cX12_oneCmd 18 = .ok (.getfield 116, 3) := by decide +kernel
theorem dX12_oneCmd_21 : decode cX12_oneCmd 21 = .ok (.iload_n 3, 1) := by decide +kernel
theorem dX12_oneCmd_22 : decode cX12_oneCmd 22 = .ok (.aload_n 0, 1) := by decide +kernel
theorem dX12_oneCmd_23 : decode cX12_oneCmd 23 = .ok (.getfield 1035, 3) := by decide +kernel
theorem dX12_oneCmd_26 : decode cX12_oneCmd 26 = .ok (.iload_n 1, 1) := by decide +kernel
theorem dX12_oneCmd_27 : decode cX12_oneCmd 27 = .ok (.iload_n 3, 1) := by decide +kernel
theorem dX12_oneCmd_28 : decode cX12_oneCmd 28 = .ok (.iadd, 1) := by decide +kernel
theorem dX12_oneCmd_29 : decode cX12_oneCmd 29 = .ok (.iaload, 1) := by decide +kernel
theorem dX12_oneCmd_30 : decode cX12_oneCmd 30 = .ok (.iastore, 1) := by decide +kernel
theorem dX12_oneCmd_31 : decode cX12_oneCmd 31 = .ok (.iinc 3 1, 3) := by decide +kernel
theorem dX12_oneCmd_34 : decode cX12_oneCmd 34 = .ok (.goto (-25), 3) := by decide +kernel
theorem dX12_oneCmd_0 : decode cX12_oneCmd 0 = .ok (.aload_n 0, 1) := by decide +kernel
theorem dX12_oneCmd_1 : decode cX12_oneCmd 1 = .ok (.iload_n 2, 1) := by decide +kernel
theorem dX12_oneCmd_2 : decode cX12_oneCmd 2 = .ok (.iload_n 1, 1) := by decide +kernel
theorem dX12_oneCmd_3 : decode cX12_oneCmd 3 = .ok (.isub, 1) := by decide +kernel
theorem dX12_oneCmd_4 : decode cX12_oneCmd 4 = .ok (.putfield 110, 3) := by decide +kernel
theorem dX12_oneCmd_7 : decode cX12_oneCmd 7 = .ok (.iconst 0, 1) := by decide +kernel
theorem dX12_oneCmd_8 : decode cX12_oneCmd 8 = .ok (.istore_n 3, 1) := by decide +kernel
def fb_X12_oneCmd_9 (K9 : Int32 → Int32 → uS → Option uS) (x1 : Int32) (x3 : Int32) (s : uS) : Option uS := if (s.I 1079 21) ≤ x3 then (some s) else ((iget 20 s 1147 (x1 + x3)).bind fun v2 => (iput 20 s 1093 x3 v2).bind fun s4 => K9 x1 (x3 + 1) s4)
set_option maxRecDepth 100000 in
set_option maxHeartbeats 4000000 in
theorem xb_X12_oneCmd_9 {l : Launch} {D : va_G} {A : Nat → ClassId} {B : Nat} {Z : State → Heap → Prop} {vF : Value} (uk : uK B Z vF) {K9 : Int32 → Int32 → uS → Option uS} (hK9 : ∀ (x1 : Int32) (x3 : Int32)  (s : uS) (r : uS), K9 x1 x3 s = some r → GU l D A B Z mX12_oneCmd 0 (r, none) s 9 [(0, .ref (B + 1079)), (1, .int x1), (3, .int x3)] []) {x1 : Int32} {x3 : Int32} {s : uS} {r : uS}  (h : fb_X12_oneCmd_9 K9 x1 x3 s = some r) : GU l D A B Z mX12_oneCmd 0 (r, none) s 9 [(0, .ref (B + 1079)), (1, .int x1), (3, .int x3)] [] := by
  unfold fb_X12_oneCmd_9 at h
  refine uu_iload_n dX12_oneCmd_9 rfl (List.mem_of_getElem? (i := 2) rfl) ?_
  refine uu_aload_n dX12_oneCmd_10 rfl (List.mem_of_getElem? (i := 0) rfl) ?_
  refine uu_geti (ci := 12) (N := 153) fX12_110 (by decide) so_1079.is (by decide) (by decide) dX12_oneCmd_11 ?_
  refine uu_icmp_ge (tgt := 37) dX12_oneCmd_14 (by decide) (fun c1 => ?_) (fun c1 => ?_)
  · replace h := uu_pos c1 h
    have hr := Option.some.inj h
    subst hr
    exact uu_vret rfl dX12_oneCmd_37
  · replace h := uu_neg c1 h
    refine uu_aload_n dX12_oneCmd_17 rfl (List.mem_of_getElem? (i := 0) rfl) ?_
    refine uu_geta (ci := 12) (N := 153) fX12_116 (by decide) so_1079.is (by decide) (c := 1093) (by decide) dX12_oneCmd_18 ?_
    refine uu_iload_n dX12_oneCmd_21 rfl (List.mem_of_getElem? (i := 2) rfl) ?_
    refine uu_aload_n dX12_oneCmd_22 rfl (List.mem_of_getElem? (i := 0) rfl) ?_
    refine uu_geta (ci := 12) (N := 153) fX12_1035 (by decide) so_1079.is (by decide) (c := 1147) (by decide) dX12_oneCmd_23 ?_
    refine uu_iload_n dX12_oneCmd_26 rfl (List.mem_of_getElem? (i := 1) rfl) ?_
    refine uu_iload_n dX12_oneCmd_27 rfl (List.mem_of_getElem? (i := 2) rfl) ?_
    refine uu_iadd dX12_oneCmd_28 ?_
    obtain ⟨v2, e3, h⟩ := uu_ob h
    refine uu_iald e3 dX12_oneCmd_29 ?_
    obtain ⟨s4, e5, h⟩ := uu_ob h
    refine uu_iast e5 dX12_oneCmd_30 ?_
    refine uu_iinc (v := x3 + 1) dX12_oneCmd_31 (k := 2) rfl rfl (by decide) rfl ?_
    refine uu_goto (tgt := 9) dX12_oneCmd_34 (by decide) ?_
    refine uu_lv [1, 2, 0] (lv' := [(0, .ref (B + 1079)), (1, .int x1), (3, .int (x3 + 1))]) rfl ?_
    exact hK9 x1 (x3 + 1) _ _ h
def fn_X12_oneCmd_9  : Nat → Int32 → Int32 → uS → Option uS
  | 0 => fun _ _ _ => none
  | n + 1 => fb_X12_oneCmd_9 (fn_X12_oneCmd_9  n)
set_option maxRecDepth 100000 in
set_option maxHeartbeats 4000000 in
theorem xn_X12_oneCmd_9 {l : Launch} {D : va_G} {A : Nat → ClassId} {B : Nat} {Z : State → Heap → Prop} {vF : Value} (uk : uK B Z vF)   : ∀ (n : Nat) (x1 : Int32) (x3 : Int32)  (s : uS) (r : uS), fn_X12_oneCmd_9  n x1 x3 s = some r → GU l D A B Z mX12_oneCmd 0 (r, none) s 9 [(0, .ref (B + 1079)), (1, .int x1), (3, .int x3)] [] := by
  intro n
  induction n with
  | zero => intro x1 x3 s r h
            cases h
  | succ n ih => intro x1 x3 s r h
                 exact xb_X12_oneCmd_9 uk ih  h
def fn_X12_oneCmd (x1 : Int32) (x2 : Int32) (s : uS) : Option uS := fn_X12_oneCmd_9 uFu x1 0 (wI s 1079 21 (x2 - x1))
set_option maxRecDepth 100000 in
set_option maxHeartbeats 4000000 in
theorem xc_X12_oneCmd {l : Launch} {D : va_G} {A : Nat → ClassId} {B : Nat} {Z : State → Heap → Prop} {vF : Value} (uk : uK B Z vF) {x1 : Int32} {x2 : Int32} {s : uS} {r : uS}  (h : fn_X12_oneCmd x1 x2 s = some r) : CU l D A B Z 0 mX12_oneCmd s [.ref (B + 1079), .int x1, .int x2] (r, none) := by
  unfold fn_X12_oneCmd at h
  refine cu_of rfl uk.1.1 (Nat.le_of_ble_eq_true rfl) ?_
  show GU _ _ _ _ _ _ _ _ _ 0 [(0, .ref (B + 1079)), (1, .int x1), (2, .int x2)] []
  refine uu_aload_n dX12_oneCmd_0 rfl (List.mem_of_getElem? (i := 0) rfl) ?_
  refine uu_iload_n dX12_oneCmd_1 rfl (List.mem_of_getElem? (i := 2) rfl) ?_
  refine uu_iload_n dX12_oneCmd_2 rfl (List.mem_of_getElem? (i := 1) rfl) ?_
  refine uu_isub dX12_oneCmd_3 ?_
  refine uu_puti (ft := .int) (ci := 12) (N := 153) fX12_110 ptX12 (Or.inl rfl) (by decide) so_1079.is (by decide) (by decide) (by decide +kernel) rfl rfl dX12_oneCmd_4 ?_
  refine uu_iconst (v := 0) dX12_oneCmd_7 (by decide) ?_
  refine uu_istore_n dX12_oneCmd_8 rfl (by decide) rfl ?_
  refine uu_lv [1, 2, 0] (lv' := [(0, .ref (B + 1079)), (1, .int x1), (3, .int 0)]) rfl ?_
  exact xn_X12_oneCmd_9 uk  _ _ _ _ _ h
abbrev mX12_hello : hM := (yX12_hello, cX12_hello, 2, none)
theorem dX12_hello_39 : decode cX12_hello 39 = .ok (.aload_n 0, 1) := by decide +kernel
theorem dX12_hello_40 : decode cX12_hello 40 = .ok (.iconst 4, 1) := by decide +kernel
theorem dX12_hello_41 : decode cX12_hello 41 = .ok (.ldc_w 1077, 3) := by decide +kernel
theorem dX12_hello_44 : decode cX12_hello 44 = .ok (.invokevirtual 974, 3) := by decide +kernel
theorem dX12_hello_47 : decode cX12_hello 47 = .ok (.return_, 1) := by decide +kernel
theorem dX12_hello_0 : decode cX12_hello 0 = .ok (.aload_n 0, 1) := by decide +kernel
theorem dX12_hello_1 : decode cX12_hello 1 = .ok (.ldc_w 1112, 3) := by decide +kernel
theorem dX12_hello_4 : decode cX12_hello 4 = .ok (.invokevirtual 1074, 3) := by decide +kernel
theorem dX12_hello_7 : decode cX12_hello 7 = .ok (.istore_n 1, 1) := by decide +kernel
theorem dX12_hello_8 : decode cX12_hello 8 = .ok (.aload_n 0, 1) := by decide +kernel
theorem dX12_hello_9 : decode cX12_hello 9 = .ok (.aload_n 0, 1) := by decide +kernel
theorem dX12_hello_10 : decode cX12_hello 10 = .ok (.getfield 1068, 3) := by decide +kernel
theorem dX12_hello_13 : decode cX12_hello 13 = .ok (.aload_n 0, 1) := by decide +kernel
theorem dX12_hello_14 : decode cX12_hello 14 = .ok (.getfield 1071, 3) := by decide +kernel
theorem kX12_oneCmd : h_ml mX12_oneCmd 2 := ⟨h_t10 200 rfl rfl, h_t1 16 rfl rfl, ⟨by decide, by decide, by decide +kernel⟩, by decide⟩
theorem lX12_1114 : Cond.methodLink RX12 1114 mX12_oneCmd.1 ∈ lw_g := h_t10 197 rfl rfl
theorem sX12_oneCmd : Cond.instanceMethod mX12_oneCmd.1 ∈ lw_g ∧ Cond.selects mX12_oneCmd.1.cls mX12_oneCmd.1 mX12_oneCmd.1 ∈ lw_g := ⟨h_t10 199 rfl rfl, h_ins 241 rfl⟩
theorem dX12_hello_17 : decode cX12_hello 17 = .ok (.invokevirtual 1114, 3) := by decide +kernel
theorem dX12_hello_20 : decode cX12_hello 20 = .ok (.iload_n 1, 1) := by decide +kernel
theorem dX12_hello_21 : decode cX12_hello 21 = .ok (.ifCond .eq 18, 3) := by decide +kernel
theorem dX12_hello_24 : decode cX12_hello 24 = .ok (.aload_n 0, 1) := by decide +kernel
theorem dX12_hello_25 : decode cX12_hello 25 = .ok (.iconst 0, 1) := by decide +kernel
theorem dX12_hello_26 : decode cX12_hello 26 = .ok (.aload_n 0, 1) := by decide +kernel
theorem dX12_hello_27 : decode cX12_hello 27 = .ok (.getfield 110, 3) := by decide +kernel
theorem dX12_hello_30 : decode cX12_hello 30 = .ok (.bipush 60, 2) := by decide +kernel
theorem dX12_hello_32 : decode cX12_hello 32 = .ok (.iconst 0, 1) := by decide +kernel
theorem dX12_hello_33 : decode cX12_hello 33 = .ok (.invokevirtual 146, 3) := by decide +kernel
theorem dX12_hello_36 : decode cX12_hello 36 = .ok (.ifCond .ne 12, 3) := by decide +kernel
theorem dX12_hello_48 : decode cX12_hello 48 = .ok (.aload_n 0, 1) := by decide +kernel
theorem dX12_hello_49 : decode cX12_hello 49 = .ok (.iconst 1, 1) := by decide +kernel
theorem dX12_hello_50 : decode cX12_hello 50 = .ok (.putfield 1012, 3) := by decide +kernel
theorem dX12_hello_53 : decode cX12_hello 53 = .ok (.aload_n 0, 1) := by decide +kernel
theorem dX12_hello_54 : decode cX12_hello 54 = .ok (.invokevirtual 1015, 3) := by decide +kernel
theorem dX12_hello_57 : decode cX12_hello 57 = .ok (.aload_n 0, 1) := by decide +kernel
theorem dX12_hello_58 : decode cX12_hello 58 = .ok (.iconst 4, 1) := by decide +kernel
theorem dX12_hello_59 : decode cX12_hello 59 = .ok (.ldc_w 1117, 3) := by decide +kernel
theorem dX12_hello_62 : decode cX12_hello 62 = .ok (.invokevirtual 974, 3) := by decide +kernel
theorem dX12_hello_65 : decode cX12_hello 65 = .ok (.aload_n 0, 1) := by decide +kernel
theorem dX12_hello_66 : decode cX12_hello 66 = .ok (.iconst 4, 1) := by decide +kernel
theorem dX12_hello_67 : decode cX12_hello 67 = .ok (.ldc_w 1119, 3) := by decide +kernel
theorem dX12_hello_70 : decode cX12_hello 70 = .ok (.invokevirtual 974, 3) := by decide +kernel
theorem dX12_hello_73 : decode cX12_hello 73 = .ok (.aload_n 0, 1) := by decide +kernel
theorem dX12_hello_74 : decode cX12_hello 74 = .ok (.iconst 4, 1) := by decide +kernel
theorem dX12_hello_75 : decode cX12_hello 75 = .ok (.ldc_w 1121, 3) := by decide +kernel
theorem dX12_hello_78 : decode cX12_hello 78 = .ok (.invokevirtual 974, 3) := by decide +kernel
theorem dX12_hello_81 : decode cX12_hello 81 = .ok (.return_, 1) := by decide +kernel
def fb_X12_hello_39   (s : uS) : Option uS := (fn_X12_line 4 kW_165 s).bind fun s2 => some s2
set_option maxRecDepth 100000 in
set_option maxHeartbeats 4000000 in
theorem xb_X12_hello_39 {l : Launch} {D : va_G} {A : Nat → ClassId} {B : Nat} {Z : State → Heap → Prop} {vF : Value} (uk : uK B Z vF)    {s : uS} {r : uS}  (h : fb_X12_hello_39   s = some r) : GU l D A B Z mX12_hello 6 (r, none) s 39 [(0, .ref (B + 1079))] [] := by
  unfold fb_X12_hello_39 at h
  refine uu_aload_n dX12_hello_39 rfl (List.mem_of_getElem? (i := 0) rfl) ?_
  refine uu_iconst (v := 4) dX12_hello_40 (by decide) ?_
  obtain ⟨cq1, cp1, cv1, cw1⟩ := uk.2.1 165 _ rfl
  refine uu_ldcwS cv1 dX12_hello_41 ?_
  obtain ⟨s2, e3, h⟩ := uu_ob h
  refine uu_cv (d1 := 5) (k := 1079) (ci := 12) (T := TX12) (N := 153) (As := [.int 4, .ref cq1]) (st := []) (st' := []) (xc_X12_line uk cw1 e3) so_1079.is (by decide) rfl kX12_line lX12_974 sX12_line (by decide) (Nat.le_of_ble_eq_true rfl) dX12_hello_44 rfl ?_
  have hr := Option.some.inj h
  subst hr
  exact uu_vret rfl dX12_hello_47
def fn_X12_hello  (s : uS) : Option uS := (fn_X12_stands kW_177 s).bind fun r2 => (fn_X12_oneCmd (r2.1.I 1079 127) (r2.1.I 1079 126) r2.1).bind fun s4 => if r2.2 = true then ((fn_X12_isDotted 0 (s4.I 1079 21) 60 false s4).bind fun v7 => if v7 = true then ((fn_X12_reset (wI s4 1079 114 1)).bind fun s10 => (fn_X12_line 4 kW_178 s10).bind fun s13 => (fn_X12_line 4 kW_179 s13).bind fun s16 => (fn_X12_line 4 kW_180 s16).bind fun s19 => some s19) else (fb_X12_hello_39 s4)) else (fb_X12_hello_39 s4)
set_option maxRecDepth 100000 in
set_option maxHeartbeats 4000000 in
theorem xc_X12_hello {l : Launch} {D : va_G} {A : Nat → ClassId} {B : Nat} {Z : State → Heap → Prop} {vF : Value} (uk : uK B Z vF)  {s : uS} {r : uS}  (h : fn_X12_hello  s = some r) : CU l D A B Z 6 mX12_hello s [.ref (B + 1079)] (r, none) := by
  unfold fn_X12_hello at h
  refine cu_of rfl uk.1.1 (Nat.le_of_ble_eq_true rfl) ?_
  show GU _ _ _ _ _ _ _ _ _ 0 [(0, .ref (B + 1079))] []
  refine uu_aload_n dX12_hello_0 rfl (List.mem_of_getElem? (i := 0) rfl) ?_
  obtain ⟨cq1, cp1, cv1, cw1⟩ := uk.2.1 177 _ rfl
  refine uu_ldcwS cv1 dX12_hello_1 ?_
  obtain ⟨r2, e3, h⟩ := uu_ob h
  refine uu_cv (d1 := 4) (k := 1079) (ci := 12) (T := TX12) (N := 153) (As := [.ref cq1]) (st := []) (st' := [.int (bI r2.2)]) (xc_X12_stands uk cw1 e3) so_1079.is (by decide) rfl kX12_stands lX12_1074 sX12_stands (by decide) (Nat.le_of_ble_eq_true rfl) dX12_hello_4 rfl ?_
  refine uu_istore_n dX12_hello_7 rfl (by decide) rfl ?_
  refine uu_aload_n dX12_hello_8 rfl (List.mem_of_getElem? (i := 1) rfl) ?_
  refine uu_aload_n dX12_hello_9 rfl (List.mem_of_getElem? (i := 1) rfl) ?_
  refine uu_geti (ci := 12) (N := 153) fX12_1068 (by decide) so_1079.is (by decide) (by decide) dX12_hello_10 ?_
  refine uu_aload_n dX12_hello_13 rfl (List.mem_of_getElem? (i := 1) rfl) ?_
  refine uu_geti (ci := 12) (N := 153) fX12_1071 (by decide) so_1079.is (by decide) (by decide) dX12_hello_14 ?_
  obtain ⟨s4, e5, h⟩ := uu_ob h
  refine uu_cv (d1 := 0) (k := 1079) (ci := 12) (T := TX12) (N := 153) (As := [.int (r2.1.I 1079 127), .int (r2.1.I 1079 126)]) (st := []) (st' := []) (xc_X12_oneCmd uk  e5) so_1079.is (by decide) rfl kX12_oneCmd lX12_1114 sX12_oneCmd (by decide) (Nat.le_of_ble_eq_true rfl) dX12_hello_17 rfl ?_
  refine uu_iload_n dX12_hello_20 rfl (List.mem_of_getElem? (i := 0) rfl) ?_
  refine uu_ifb_eq (tgt := 39) dX12_hello_21 (by decide) (fun c6 => ?_) (fun c6 => ?_)
  · replace h := uu_neg c6 h
    refine uu_lv [1] (lv' := [(0, .ref (B + 1079))]) rfl ?_
    exact xb_X12_hello_39 uk  h
  · replace h := uu_pos c6 h
    refine uu_aload_n dX12_hello_24 rfl (List.mem_of_getElem? (i := 1) rfl) ?_
    refine uu_iconst (v := 0) dX12_hello_25 (by decide) ?_
    refine uu_aload_n dX12_hello_26 rfl (List.mem_of_getElem? (i := 1) rfl) ?_
    refine uu_geti (ci := 12) (N := 153) fX12_110 (by decide) so_1079.is (by decide) (by decide) dX12_hello_27 ?_
    refine uu_bipush (v := 60) dX12_hello_30 (by decide) ?_
    refine uu_iconst (v := 0) dX12_hello_32 (by decide) ?_
    obtain ⟨v7, e8, h⟩ := uu_ob h
    refine uu_cv (d1 := 2) (k := 1079) (ci := 12) (T := TX12) (N := 153) (As := [.int 0, .int (s4.I 1079 21), .int 60, .int 0]) (st := []) (st' := [.int (bI v7)]) (xc_X12_isDotted uk  e8) so_1079.is (by decide) rfl kX12_isDotted lX12_146 sX12_isDotted (by decide) (Nat.le_of_ble_eq_true rfl) dX12_hello_33 rfl ?_
    refine uu_ifb_ne (tgt := 48) dX12_hello_36 (by decide) (fun c9 => ?_) (fun c9 => ?_)
    · replace h := uu_pos c9 h
      refine uu_aload_n dX12_hello_48 rfl (List.mem_of_getElem? (i := 1) rfl) ?_
      refine uu_iconst (v := 1) dX12_hello_49 (by decide) ?_
      refine uu_puti (ft := .boolean) (ci := 12) (N := 153) fX12_1012 ptX12 (Or.inl rfl) (by decide) so_1079.is (by decide) (by decide) (by decide +kernel) rfl rfl dX12_hello_50 ?_
      refine uu_aload_n dX12_hello_53 rfl (List.mem_of_getElem? (i := 1) rfl) ?_
      obtain ⟨s10, e11, h⟩ := uu_ob h
      refine uu_cv (d1 := 0) (k := 1079) (ci := 12) (T := TX12) (N := 153) (As := []) (st := []) (st' := []) (xc_X12_reset uk  e11) so_1079.is (by decide) rfl kX12_reset lX12_1015 sX12_reset (by decide) (Nat.le_of_ble_eq_true rfl) dX12_hello_54 rfl ?_
      refine uu_aload_n dX12_hello_57 rfl (List.mem_of_getElem? (i := 1) rfl) ?_
      refine uu_iconst (v := 4) dX12_hello_58 (by decide) ?_
      obtain ⟨cq12, cp12, cv12, cw12⟩ := uk.2.1 178 _ rfl
      refine uu_ldcwS cv12 dX12_hello_59 ?_
      obtain ⟨s13, e14, h⟩ := uu_ob h
      refine uu_cv (d1 := 5) (k := 1079) (ci := 12) (T := TX12) (N := 153) (As := [.int 4, .ref cq12]) (st := []) (st' := []) (xc_X12_line uk cw12 e14) so_1079.is (by decide) rfl kX12_line lX12_974 sX12_line (by decide) (Nat.le_of_ble_eq_true rfl) dX12_hello_62 rfl ?_
      refine uu_aload_n dX12_hello_65 rfl (List.mem_of_getElem? (i := 1) rfl) ?_
      refine uu_iconst (v := 4) dX12_hello_66 (by decide) ?_
      obtain ⟨cq15, cp15, cv15, cw15⟩ := uk.2.1 179 _ rfl
      refine uu_ldcwS cv15 dX12_hello_67 ?_
      obtain ⟨s16, e17, h⟩ := uu_ob h
      refine uu_cv (d1 := 5) (k := 1079) (ci := 12) (T := TX12) (N := 153) (As := [.int 4, .ref cq15]) (st := []) (st' := []) (xc_X12_line uk cw15 e17) so_1079.is (by decide) rfl kX12_line lX12_974 sX12_line (by decide) (Nat.le_of_ble_eq_true rfl) dX12_hello_70 rfl ?_
      refine uu_aload_n dX12_hello_73 rfl (List.mem_of_getElem? (i := 1) rfl) ?_
      refine uu_iconst (v := 4) dX12_hello_74 (by decide) ?_
      obtain ⟨cq18, cp18, cv18, cw18⟩ := uk.2.1 180 _ rfl
      refine uu_ldcwS cv18 dX12_hello_75 ?_
      obtain ⟨s19, e20, h⟩ := uu_ob h
      refine uu_cv (d1 := 5) (k := 1079) (ci := 12) (T := TX12) (N := 153) (As := [.int 4, .ref cq18]) (st := []) (st' := []) (xc_X12_line uk cw18 e20) so_1079.is (by decide) rfl kX12_line lX12_974 sX12_line (by decide) (Nat.le_of_ble_eq_true rfl) dX12_hello_78 rfl ?_
      have hr := Option.some.inj h
      subst hr
      exact uu_vret rfl dX12_hello_81
    · replace h := uu_neg c9 h
      refine uu_lv [1] (lv' := [(0, .ref (B + 1079))]) rfl ?_
      exact xb_X12_hello_39 uk  h
abbrev mX12_data : hM := (yX12_data, cX12_data, 1, none)
theorem dX12_data_0 : decode cX12_data 0 = .ok (.aload_n 0, 1) := by decide +kernel
theorem dX12_data_1 : decode cX12_data 1 = .ok (.getfield 1068, 3) := by decide +kernel
theorem dX12_data_4 : decode cX12_data 4 = .ok (.aload_n 0, 1) := by decide +kernel
theorem dX12_data_5 : decode cX12_data 5 = .ok (.getfield 1071, 3) := by decide +kernel
theorem dX12_data_8 : decode cX12_data 8 = .ok (.if_icmp .eq 14, 3) := by decide +kernel
theorem dX12_data_22 : decode cX12_data 22 = .ok (.aload_n 0, 1) := by decide +kernel
theorem dX12_data_23 : decode cX12_data 23 = .ok (.getfield 1032, 3) := by decide +kernel
theorem dX12_data_26 : decode cX12_data 26 = .ok (.ifCond .ne 14, 3) := by decide +kernel
theorem dX12_data_40 : decode cX12_data 40 = .ok (.aload_n 0, 1) := by decide +kernel
theorem dX12_data_41 : decode cX12_data 41 = .ok (.iconst 4, 1) := by decide +kernel
theorem dX12_data_42 : decode cX12_data 42 = .ok (.ldc_w 1169, 3) := by decide +kernel
theorem dX12_data_45 : decode cX12_data 45 = .ok (.invokevirtual 974, 3) := by decide +kernel
theorem dX12_data_48 : decode cX12_data 48 = .ok (.aload_n 0, 1) := by decide +kernel
theorem dX12_data_49 : decode cX12_data 49 = .ok (.iconst 1, 1) := by decide +kernel
theorem dX12_data_50 : decode cX12_data 50 = .ok (.putfield 1018, 3) := by decide +kernel
theorem dX12_data_53 : decode cX12_data 53 = .ok (.aload_n 0, 1) := by decide +kernel
theorem dX12_data_54 : decode cX12_data 54 = .ok (.iconst 0, 1) := by decide +kernel
theorem dX12_data_55 : decode cX12_data 55 = .ok (.putfield 75, 3) := by decide +kernel
theorem dX12_data_58 : decode cX12_data 58 = .ok (.aload_n 0, 1) := by decide +kernel
theorem dX12_data_59 : decode cX12_data 59 = .ok (.iconst 0, 1) := by decide +kernel
theorem fX12_1054 : h_fl RX12 1054 12 124 RX12 TX12 153 := ⟨rfl, by decide, inX12, h_t12 85 rfl rfl⟩
theorem dX12_data_60 : decode cX12_data 60 = .ok (.putfield 1054, 3) := by decide +kernel
theorem dX12_data_63 : decode cX12_data 63 = .ok (.aload_n 0, 1) := by decide +kernel
theorem dX12_data_64 : decode cX12_data 64 = .ok (.iconst 0, 1) := by decide +kernel
theorem fX12_1051 : h_fl RX12 1051 12 125 RX12 TX12 153 := ⟨rfl, by decide, inX12, h_t12 86 rfl rfl⟩
theorem dX12_data_65 : decode cX12_data 65 = .ok (.putfield 1051, 3) := by decide +kernel
theorem dX12_data_68 : decode cX12_data 68 = .ok (.return_, 1) := by decide +kernel
theorem dX12_data_29 : decode cX12_data 29 = .ok (.aload_n 0, 1) := by decide +kernel
theorem dX12_data_30 : decode cX12_data 30 = .ok (.iconst 4, 1) := by decide +kernel
theorem dX12_data_31 : decode cX12_data 31 = .ok (.ldc_w 1108, 3) := by decide +kernel
theorem dX12_data_34 : decode cX12_data 34 = .ok (.invokevirtual 974, 3) := by decide +kernel
theorem dX12_data_37 : decode cX12_data 37 = .ok (.goto 31, 3) := by decide +kernel
theorem dX12_data_11 : decode cX12_data 11 = .ok (.aload_n 0, 1) := by decide +kernel
theorem dX12_data_12 : decode cX12_data 12 = .ok (.iconst 4, 1) := by decide +kernel
theorem dX12_data_13 : decode cX12_data 13 = .ok (.ldc_w 1077, 3) := by decide +kernel
theorem dX12_data_16 : decode cX12_data 16 = .ok (.invokevirtual 974, 3) := by decide +kernel
theorem dX12_data_19 : decode cX12_data 19 = .ok (.goto 49, 3) := by decide +kernel
def fn_X12_data  (s : uS) : Option uS := if (s.I 1079 127) = (s.I 1079 126) then (if (s.I 1079 117) = 0 then ((fn_X12_line 4 kW_175 s).bind fun s7 => some s7) else ((fn_X12_line 4 kW_191 s).bind fun s4 => some (wI (wI (wI (wI s4 1079 116 1) 1079 13 0) 1079 124 0) 1079 125 0))) else ((fn_X12_line 4 kW_165 s).bind fun s10 => some s10)
set_option maxRecDepth 100000 in
set_option maxHeartbeats 4000000 in
theorem xc_X12_data {l : Launch} {D : va_G} {A : Nat → ClassId} {B : Nat} {Z : State → Heap → Prop} {vF : Value} (uk : uK B Z vF)  {s : uS} {r : uS}  (h : fn_X12_data  s = some r) : CU l D A B Z 6 mX12_data s [.ref (B + 1079)] (r, none) := by
  unfold fn_X12_data at h
  refine cu_of rfl uk.1.1 (Nat.le_of_ble_eq_true rfl) ?_
  show GU _ _ _ _ _ _ _ _ _ 0 [(0, .ref (B + 1079))] []
  refine uu_aload_n dX12_data_0 rfl (List.mem_of_getElem? (i := 0) rfl) ?_
  refine uu_geti (ci := 12) (N := 153) fX12_1068 (by decide) so_1079.is (by decide) (by decide) dX12_data_1 ?_
  refine uu_aload_n dX12_data_4 rfl (List.mem_of_getElem? (i := 0) rfl) ?_
  refine uu_geti (ci := 12) (N := 153) fX12_1071 (by decide) so_1079.is (by decide) (by decide) dX12_data_5 ?_
  refine uu_icmp_eq (tgt := 22) dX12_data_8 (by decide) (fun c1 => ?_) (fun c1 => ?_)
  · replace h := uu_pos c1 h
    refine uu_aload_n dX12_data_22 rfl (List.mem_of_getElem? (i := 0) rfl) ?_
    refine uu_geti (ci := 12) (N := 153) fX12_1032 (by decide) so_1079.is (by decide) (by decide) dX12_data_23 ?_
    refine uu_if_ne (tgt := 40) dX12_data_26 (by decide) (fun c2 => ?_) (fun c2 => ?_)
    · replace h := uu_neg c2 h
      refine uu_aload_n dX12_data_40 rfl (List.mem_of_getElem? (i := 0) rfl) ?_
      refine uu_iconst (v := 4) dX12_data_41 (by decide) ?_
      obtain ⟨cq3, cp3, cv3, cw3⟩ := uk.2.1 191 _ rfl
      refine uu_ldcwS cv3 dX12_data_42 ?_
      obtain ⟨s4, e5, h⟩ := uu_ob h
      refine uu_cv (d1 := 5) (k := 1079) (ci := 12) (T := TX12) (N := 153) (As := [.int 4, .ref cq3]) (st := []) (st' := []) (xc_X12_line uk cw3 e5) so_1079.is (by decide) rfl kX12_line lX12_974 sX12_line (by decide) (Nat.le_of_ble_eq_true rfl) dX12_data_45 rfl ?_
      refine uu_aload_n dX12_data_48 rfl (List.mem_of_getElem? (i := 0) rfl) ?_
      refine uu_iconst (v := 1) dX12_data_49 (by decide) ?_
      refine uu_puti (ft := .boolean) (ci := 12) (N := 153) fX12_1018 ptX12 (Or.inl rfl) (by decide) so_1079.is (by decide) (by decide) (by decide +kernel) rfl rfl dX12_data_50 ?_
      refine uu_aload_n dX12_data_53 rfl (List.mem_of_getElem? (i := 0) rfl) ?_
      refine uu_iconst (v := 0) dX12_data_54 (by decide) ?_
      refine uu_puti (ft := .int) (ci := 12) (N := 153) fX12_75 ptX12 (Or.inl rfl) (by decide) so_1079.is (by decide) (by decide) (by decide +kernel) rfl rfl dX12_data_55 ?_
      refine uu_aload_n dX12_data_58 rfl (List.mem_of_getElem? (i := 0) rfl) ?_
      refine uu_iconst (v := 0) dX12_data_59 (by decide) ?_
      refine uu_puti (ft := .boolean) (ci := 12) (N := 153) fX12_1054 ptX12 (Or.inl rfl) (by decide) so_1079.is (by decide) (by decide) (by decide +kernel) rfl rfl dX12_data_60 ?_
      refine uu_aload_n dX12_data_63 rfl (List.mem_of_getElem? (i := 0) rfl) ?_
      refine uu_iconst (v := 0) dX12_data_64 (by decide) ?_
      refine uu_puti (ft := .int) (ci := 12) (N := 153) fX12_1051 ptX12 (Or.inl rfl) (by decide) so_1079.is (by decide) (by decide) (by decide +kernel) rfl rfl dX12_data_65 ?_
      have hr := Option.some.inj h
      subst hr
      exact uu_vret rfl dX12_data_68
    · replace h := uu_pos c2 h
      refine uu_aload_n dX12_data_29 rfl (List.mem_of_getElem? (i := 0) rfl) ?_
      refine uu_iconst (v := 4) dX12_data_30 (by decide) ?_
      obtain ⟨cq6, cp6, cv6, cw6⟩ := uk.2.1 175 _ rfl
      refine uu_ldcwS cv6 dX12_data_31 ?_
      obtain ⟨s7, e8, h⟩ := uu_ob h
      refine uu_cv (d1 := 5) (k := 1079) (ci := 12) (T := TX12) (N := 153) (As := [.int 4, .ref cq6]) (st := []) (st' := []) (xc_X12_line uk cw6 e8) so_1079.is (by decide) rfl kX12_line lX12_974 sX12_line (by decide) (Nat.le_of_ble_eq_true rfl) dX12_data_34 rfl ?_
      refine uu_goto (tgt := 68) dX12_data_37 (by decide) ?_
      have hr := Option.some.inj h
      subst hr
      exact uu_vret rfl dX12_data_68
  · replace h := uu_neg c1 h
    refine uu_aload_n dX12_data_11 rfl (List.mem_of_getElem? (i := 0) rfl) ?_
    refine uu_iconst (v := 4) dX12_data_12 (by decide) ?_
    obtain ⟨cq9, cp9, cv9, cw9⟩ := uk.2.1 165 _ rfl
    refine uu_ldcwS cv9 dX12_data_13 ?_
    obtain ⟨s10, e11, h⟩ := uu_ob h
    refine uu_cv (d1 := 5) (k := 1079) (ci := 12) (T := TX12) (N := 153) (As := [.int 4, .ref cq9]) (st := []) (st' := []) (xc_X12_line uk cw9 e11) so_1079.is (by decide) rfl kX12_line lX12_974 sX12_line (by decide) (Nat.le_of_ble_eq_true rfl) dX12_data_16 rfl ?_
    refine uu_goto (tgt := 68) dX12_data_19 (by decide) ?_
    have hr := Option.some.inj h
    subst hr
    exact uu_vret rfl dX12_data_68
abbrev mX12_path : hM := (yX12_path, cX12_path, 2, (some (.boolean)))
theorem dX12_path_43 : decode cX12_path 43 = .ok (.iload_n 1, 1) := by decide +kernel
theorem dX12_path_44 : decode cX12_path 44 = .ok (.aload_n 0, 1) := by decide +kernel
theorem dX12_path_45 : decode cX12_path 45 = .ok (.getfield 1071, 3) := by decide +kernel
theorem dX12_path_48 : decode cX12_path 48 = .ok (.if_icmp .ne 5, 3) := by decide +kernel
theorem dX12_path_53 : decode cX12_path 53 = .ok (.aload_n 0, 1) := by decide +kernel
theorem dX12_path_54 : decode cX12_path 54 = .ok (.aload_n 0, 1) := by decide +kernel
theorem dX12_path_55 : decode cX12_path 55 = .ok (.getfield 1068, 3) := by decide +kernel
theorem dX12_path_58 : decode cX12_path 58 = .ok (.iload_n 1, 1) := by decide +kernel
theorem dX12_path_59 : decode cX12_path 59 = .ok (.invokevirtual 1114, 3) := by decide +kernel
theorem dX12_path_62 : decode cX12_path 62 = .ok (.aload_n 0, 1) := by decide +kernel
theorem dX12_path_63 : decode cX12_path 63 = .ok (.iload_n 1, 1) := by decide +kernel
theorem dX12_path_64 : decode cX12_path 64 = .ok (.iconst 1, 1) := by decide +kernel
theorem dX12_path_65 : decode cX12_path 65 = .ok (.iadd, 1) := by decide +kernel
theorem dX12_path_66 : decode cX12_path 66 = .ok (.putfield 1068, 3) := by decide +kernel
theorem dX12_path_69 : decode cX12_path 69 = .ok (.aload_n 0, 1) := by decide +kernel
theorem dX12_path_70 : decode cX12_path 70 = .ok (.invokevirtual 469, 3) := by decide +kernel
theorem dX12_path_73 : decode cX12_path 73 = .ok (.ifCond .lt 7, 3) := by decide +kernel
theorem dX12_path_80 : decode cX12_path 80 = .ok (.iconst 0, 1) := by decide +kernel
theorem dX12_path_81 : decode cX12_path 81 = .ok (.ireturn, 1) := by decide +kernel
theorem dX12_path_76 : decode cX12_path 76 = .ok (.iconst 1, 1) := by decide +kernel
theorem dX12_path_77 : decode cX12_path 77 = .ok (.goto 4, 3) := by decide +kernel
theorem dX12_path_51 : decode cX12_path 51 = .ok (.iconst 0, 1) := by decide +kernel
theorem dX12_path_52 : decode cX12_path 52 = .ok (.ireturn, 1) := by decide +kernel
theorem dX12_path_17 : decode cX12_path 17 = .ok (.iload_n 1, 1) := by decide +kernel
theorem dX12_path_18 : decode cX12_path 18 = .ok (.aload_n 0, 1) := by decide +kernel
theorem dX12_path_19 : decode cX12_path 19 = .ok (.getfield 1071, 3) := by decide +kernel
theorem dX12_path_22 : decode cX12_path 22 = .ok (.if_icmp .ge 21, 3) := by decide +kernel
theorem dX12_path_25 : decode cX12_path 25 = .ok (.aload_n 0, 1) := by decide +kernel
theorem dX12_path_26 : decode cX12_path 26 = .ok (.getfield 1035, 3) := by decide +kernel
theorem dX12_path_29 : decode cX12_path 29 = .ok (.iload_n 1, 1) := by decide +kernel
theorem dX12_path_30 : decode cX12_path 30 = .ok (.iaload, 1) := by decide +kernel
theorem dX12_path_31 : decode cX12_path 31 = .ok (.bipush 62, 2) := by decide +kernel
theorem dX12_path_33 : decode cX12_path 33 = .ok (.if_icmp .eq 10, 3) := by decide +kernel
theorem dX12_path_36 : decode cX12_path 36 = .ok (.iload_n 1, 1) := by decide +kernel
theorem dX12_path_37 : decode cX12_path 37 = .ok (.iconst 1, 1) := by decide +kernel
theorem dX12_path_38 : decode cX12_path 38 = .ok (.iadd, 1) := by decide +kernel
theorem dX12_path_39 : decode cX12_path 39 = .ok (.istore_n 1, 1) := by decide +kernel
theorem dX12_path_40 : decode cX12_path 40 = .ok (.goto (-23), 3) := by decide +kernel
theorem dX12_path_0 : decode cX12_path 0 = .ok (.aload_n 0, 1) := by decide +kernel
theorem dX12_path_1 : decode cX12_path 1 = .ok (.ldc_w 1123, 3) := by decide +kernel
theorem dX12_path_4 : decode cX12_path 4 = .ok (.invokevirtual 1074, 3) := by decide +kernel
theorem dX12_path_7 : decode cX12_path 7 = .ok (.ifCond .ne 5, 3) := by decide +kernel
theorem dX12_path_12 : decode cX12_path 12 = .ok (.aload_n 0, 1) := by decide +kernel
theorem dX12_path_13 : decode cX12_path 13 = .ok (.getfield 1068, 3) := by decide +kernel
theorem dX12_path_16 : decode cX12_path 16 = .ok (.istore_n 1, 1) := by decide +kernel
theorem dX12_path_10 : decode cX12_path 10 = .ok (.iconst 0, 1) := by decide +kernel
theorem dX12_path_11 : decode cX12_path 11 = .ok (.ireturn, 1) := by decide +kernel
def fb_X12_path_43  (x1 : Int32) (s : uS) : Option (uS × Bool) := if x1 = (s.I 1079 126) then (some (s, false)) else ((fn_X12_oneCmd (s.I 1079 127) x1 s).bind fun s2 => (fn_X12_atOf (wI s2 1079 127 (x1 + 1))).bind fun v4 => if v4 < 0 then (some (wI s2 1079 127 (x1 + 1), false)) else (some (wI s2 1079 127 (x1 + 1), true)))
set_option maxRecDepth 100000 in
set_option maxHeartbeats 4000000 in
theorem xb_X12_path_43 {l : Launch} {D : va_G} {A : Nat → ClassId} {B : Nat} {Z : State → Heap → Prop} {vF : Value} (uk : uK B Z vF)   {x1 : Int32} {s : uS} {r : (uS × Bool)}  (h : fb_X12_path_43  x1 s = some r) : GU l D A B Z mX12_path 5 (r.1, some (.int (bI r.2))) s 43 [(0, .ref (B + 1079)), (1, .int x1)] [] := by
  unfold fb_X12_path_43 at h
  refine uu_iload_n dX12_path_43 rfl (List.mem_of_getElem? (i := 1) rfl) ?_
  refine uu_aload_n dX12_path_44 rfl (List.mem_of_getElem? (i := 0) rfl) ?_
  refine uu_geti (ci := 12) (N := 153) fX12_1071 (by decide) so_1079.is (by decide) (by decide) dX12_path_45 ?_
  refine uu_icmp_ne (tgt := 53) dX12_path_48 (by decide) (fun c1 => ?_) (fun c1 => ?_)
  · replace h := uu_neg c1 h
    refine uu_aload_n dX12_path_53 rfl (List.mem_of_getElem? (i := 0) rfl) ?_
    refine uu_aload_n dX12_path_54 rfl (List.mem_of_getElem? (i := 0) rfl) ?_
    refine uu_geti (ci := 12) (N := 153) fX12_1068 (by decide) so_1079.is (by decide) (by decide) dX12_path_55 ?_
    refine uu_iload_n dX12_path_58 rfl (List.mem_of_getElem? (i := 1) rfl) ?_
    obtain ⟨s2, e3, h⟩ := uu_ob h
    refine uu_cv (d1 := 0) (k := 1079) (ci := 12) (T := TX12) (N := 153) (As := [.int (s.I 1079 127), .int x1]) (st := []) (st' := []) (xc_X12_oneCmd uk  e3) so_1079.is (by decide) rfl kX12_oneCmd lX12_1114 sX12_oneCmd (by decide) (Nat.le_of_ble_eq_true rfl) dX12_path_59 rfl ?_
    refine uu_aload_n dX12_path_62 rfl (List.mem_of_getElem? (i := 0) rfl) ?_
    refine uu_iload_n dX12_path_63 rfl (List.mem_of_getElem? (i := 1) rfl) ?_
    refine uu_iconst (v := 1) dX12_path_64 (by decide) ?_
    refine uu_iadd dX12_path_65 ?_
    refine uu_puti (ft := .int) (ci := 12) (N := 153) fX12_1068 ptX12 (Or.inl rfl) (by decide) so_1079.is (by decide) (by decide) (by decide +kernel) rfl rfl dX12_path_66 ?_
    refine uu_aload_n dX12_path_69 rfl (List.mem_of_getElem? (i := 0) rfl) ?_
    obtain ⟨v4, e5, h⟩ := uu_ob h
    refine uu_cv (d1 := 3) (k := 1079) (ci := 12) (T := TX12) (N := 153) (As := []) (st := []) (st' := [.int v4]) (xc_X12_atOf uk  e5) so_1079.is (by decide) rfl kX12_atOf lX12_469 sX12_atOf (by decide) (Nat.le_of_ble_eq_true rfl) dX12_path_70 rfl ?_
    refine uu_if_lt (tgt := 80) dX12_path_73 (by decide) (fun c6 => ?_) (fun c6 => ?_)
    · replace h := uu_pos c6 h
      refine uu_iconst (v := 0) dX12_path_80 (by decide) ?_
      have hr := Option.some.inj h
      subst hr
      exact uu_zret (x := bI false) rfl (bI_z _) dX12_path_81
    · replace h := uu_neg c6 h
      refine uu_iconst (v := 1) dX12_path_76 (by decide) ?_
      refine uu_goto (tgt := 81) dX12_path_77 (by decide) ?_
      have hr := Option.some.inj h
      subst hr
      exact uu_zret (x := bI true) rfl (bI_z _) dX12_path_81
  · replace h := uu_pos c1 h
    refine uu_iconst (v := 0) dX12_path_51 (by decide) ?_
    have hr := Option.some.inj h
    subst hr
    exact uu_zret (x := bI false) rfl (bI_z _) dX12_path_52
def fb_X12_path_17 (K17 : Int32 → uS → Option (uS × Bool)) (x1 : Int32) (s : uS) : Option (uS × Bool) := if (s.I 1079 126) ≤ x1 then (fb_X12_path_43 x1 s) else ((iget 20 s 1147 x1).bind fun v2 => if v2 = 62 then (fb_X12_path_43 x1 s) else (K17 (x1 + 1) s))
set_option maxRecDepth 100000 in
set_option maxHeartbeats 4000000 in
theorem xb_X12_path_17 {l : Launch} {D : va_G} {A : Nat → ClassId} {B : Nat} {Z : State → Heap → Prop} {vF : Value} (uk : uK B Z vF) {K17 : Int32 → uS → Option (uS × Bool)} (hK17 : ∀ (x1 : Int32)  (s : uS) (r : (uS × Bool)), K17 x1 s = some r → GU l D A B Z mX12_path 5 (r.1, some (.int (bI r.2))) s 17 [(0, .ref (B + 1079)), (1, .int x1)] []) {x1 : Int32} {s : uS} {r : (uS × Bool)}  (h : fb_X12_path_17 K17 x1 s = some r) : GU l D A B Z mX12_path 5 (r.1, some (.int (bI r.2))) s 17 [(0, .ref (B + 1079)), (1, .int x1)] [] := by
  unfold fb_X12_path_17 at h
  refine uu_iload_n dX12_path_17 rfl (List.mem_of_getElem? (i := 1) rfl) ?_
  refine uu_aload_n dX12_path_18 rfl (List.mem_of_getElem? (i := 0) rfl) ?_
  refine uu_geti (ci := 12) (N := 153) fX12_1071 (by decide) so_1079.is (by decide) (by decide) dX12_path_19 ?_
  refine uu_icmp_ge (tgt := 43) dX12_path_22 (by decide) (fun c1 => ?_) (fun c1 => ?_)
  · replace h := uu_pos c1 h
    exact xb_X12_path_43 uk  h
  · replace h := uu_neg c1 h
    refine uu_aload_n dX12_path_25 rfl (List.mem_of_getElem? (i := 0) rfl) ?_
    refine uu_geta (ci := 12) (N := 153) fX12_1035 (by decide) so_1079.is (by decide) (c := 1147) (by decide) dX12_path_26 ?_
    refine uu_iload_n dX12_path_29 rfl (List.mem_of_getElem? (i := 1) rfl) ?_
    obtain ⟨v2, e3, h⟩ := uu_ob h
    refine uu_iald e3 dX12_path_30 ?_
    refine uu_bipush (v := 62) dX12_path_31 (by decide) ?_
    refine uu_icmp_eq (tgt := 43) dX12_path_33 (by decide) (fun c4 => ?_) (fun c4 => ?_)
    · replace h := uu_pos c4 h
      exact xb_X12_path_43 uk  h
    · replace h := uu_neg c4 h
      refine uu_iload_n dX12_path_36 rfl (List.mem_of_getElem? (i := 1) rfl) ?_
      refine uu_iconst (v := 1) dX12_path_37 (by decide) ?_
      refine uu_iadd dX12_path_38 ?_
      refine uu_istore_n dX12_path_39 rfl (by decide) rfl ?_
      refine uu_goto (tgt := 17) dX12_path_40 (by decide) ?_
      refine uu_lv [1, 0] (lv' := [(0, .ref (B + 1079)), (1, .int (x1 + 1))]) rfl ?_
      exact hK17 (x1 + 1) _ _ h
def fn_X12_path_17  : Nat → Int32 → uS → Option (uS × Bool)
  | 0 => fun _ _ => none
  | n + 1 => fb_X12_path_17 (fn_X12_path_17  n)
set_option maxRecDepth 100000 in
set_option maxHeartbeats 4000000 in
theorem xn_X12_path_17 {l : Launch} {D : va_G} {A : Nat → ClassId} {B : Nat} {Z : State → Heap → Prop} {vF : Value} (uk : uK B Z vF)   : ∀ (n : Nat) (x1 : Int32)  (s : uS) (r : (uS × Bool)), fn_X12_path_17  n x1 s = some r → GU l D A B Z mX12_path 5 (r.1, some (.int (bI r.2))) s 17 [(0, .ref (B + 1079)), (1, .int x1)] [] := by
  intro n
  induction n with
  | zero => intro x1 s r h
            cases h
  | succ n ih => intro x1 s r h
                 exact xb_X12_path_17 uk ih  h
def fn_X12_path  (s : uS) : Option (uS × Bool) := (fn_X12_stands kW_181 s).bind fun r2 => if r2.2 = true then (fn_X12_path_17 uFu (r2.1.I 1079 127) r2.1) else (some (r2.1, false))
set_option maxRecDepth 100000 in
set_option maxHeartbeats 4000000 in
theorem xc_X12_path {l : Launch} {D : va_G} {A : Nat → ClassId} {B : Nat} {Z : State → Heap → Prop} {vF : Value} (uk : uK B Z vF)  {s : uS} {r : (uS × Bool)}  (h : fn_X12_path  s = some r) : CU l D A B Z 5 mX12_path s [.ref (B + 1079)] (r.1, some (.int (bI r.2))) := by
  unfold fn_X12_path at h
  refine cu_of rfl uk.1.1 (Nat.le_of_ble_eq_true rfl) ?_
  show GU _ _ _ _ _ _ _ _ _ 0 [(0, .ref (B + 1079))] []
  refine uu_aload_n dX12_path_0 rfl (List.mem_of_getElem? (i := 0) rfl) ?_
  obtain ⟨cq1, cp1, cv1, cw1⟩ := uk.2.1 181 _ rfl
  refine uu_ldcwS cv1 dX12_path_1 ?_
  obtain ⟨r2, e3, h⟩ := uu_ob h
  refine uu_cv (d1 := 4) (k := 1079) (ci := 12) (T := TX12) (N := 153) (As := [.ref cq1]) (st := []) (st' := [.int (bI r2.2)]) (xc_X12_stands uk cw1 e3) so_1079.is (by decide) rfl kX12_stands lX12_1074 sX12_stands (by decide) (Nat.le_of_ble_eq_true rfl) dX12_path_4 rfl ?_
  refine uu_ifb_ne (tgt := 12) dX12_path_7 (by decide) (fun c4 => ?_) (fun c4 => ?_)
  · replace h := uu_pos c4 h
    refine uu_aload_n dX12_path_12 rfl (List.mem_of_getElem? (i := 0) rfl) ?_
    refine uu_geti (ci := 12) (N := 153) fX12_1068 (by decide) so_1079.is (by decide) (by decide) dX12_path_13 ?_
    refine uu_istore_n dX12_path_16 rfl (by decide) rfl ?_
    refine uu_lv [1, 0] (lv' := [(0, .ref (B + 1079)), (1, .int (r2.1.I 1079 127))]) rfl ?_
    exact xn_X12_path_17 uk  _ _ _ _ h
  · replace h := uu_neg c4 h
    refine uu_iconst (v := 0) dX12_path_10 (by decide) ?_
    have hr := Option.some.inj h
    subst hr
    exact uu_zret (x := bI false) rfl (bI_z _) dX12_path_11
abbrev mX12_recipient : hM := (yX12_recipient, cX12_recipient, 4, none)
theorem dX12_recipient_129 : decode cX12_recipient 129 = .ok (.iload_n 3, 1) := by decide +kernel
theorem dX12_recipient_130 : decode cX12_recipient 130 = .ok (.aload_n 0, 1) := by decide +kernel
theorem dX12_recipient_131 : decode cX12_recipient 131 = .ok (.getfield 110, 3) := by decide +kernel
theorem dX12_recipient_134 : decode cX12_recipient 134 = .ok (.if_icmp .ge 29, 3) := by decide +kernel
theorem dX12_recipient_163 : decode cX12_recipient 163 = .ok (.aload_n 0, 1) := by decide +kernel
theorem dX12_recipient_164 : decode cX12_recipient 164 = .ok (.aload_n 0, 1) := by decide +kernel
theorem dX12_recipient_165 : decode cX12_recipient 165 = .ok (.getfield 1032, 3) := by decide +kernel
theorem dX12_recipient_168 : decode cX12_recipient 168 = .ok (.iconst 1, 1) := by decide +kernel
theorem dX12_recipient_169 : decode cX12_recipient 169 = .ok (.iadd, 1) := by decide +kernel
theorem dX12_recipient_170 : decode cX12_recipient 170 = .ok (.putfield 1032, 3) := by decide +kernel
theorem dX12_recipient_173 : decode cX12_recipient 173 = .ok (.aload_n 0, 1) := by decide +kernel
theorem dX12_recipient_174 : decode cX12_recipient 174 = .ok (.iconst 4, 1) := by decide +kernel
theorem dX12_recipient_175 : decode cX12_recipient 175 = .ok (.ldc_w 1167, 3) := by decide +kernel
theorem dX12_recipient_178 : decode cX12_recipient 178 = .ok (.invokevirtual 974, 3) := by decide +kernel
theorem dX12_recipient_181 : decode cX12_recipient 181 = .ok (.return_, 1) := by decide +kernel
theorem dX12_recipient_137 : decode cX12_recipient 137 = .ok (.aload_n 0, 1) := by decide +kernel
theorem dX12_recipient_138 : decode cX12_recipient 138 = .ok (.getfield 969, 3) := by decide +kernel
theorem dX12_recipient_141 : decode cX12_recipient 141 = .ok (.bipush 101, 2) := by decide +kernel
theorem dX12_recipient_143 : decode cX12_recipient 143 = .ok (.aload_n 0, 1) := by decide +kernel
theorem dX12_recipient_144 : decode cX12_recipient 144 = .ok (.getfield 1032, 3) := by decide +kernel
theorem dX12_recipient_147 : decode cX12_recipient 147 = .ok (.imul, 1) := by decide +kernel
theorem dX12_recipient_148 : decode cX12_recipient 148 = .ok (.iload_n 3, 1) := by decide +kernel
theorem dX12_recipient_149 : decode cX12_recipient 149 = .ok (.iadd, 1) := by decide +kernel
theorem dX12_recipient_150 : decode cX12_recipient 150 = .ok (.aload_n 0, 1) := by decide +kernel
theorem dX12_recipient_151 : decode cX12_recipient 151 = .ok (.getfield 116, 3) := by decide +kernel
theorem dX12_recipient_154 : decode cX12_recipient 154 = .ok (.iload_n 3, 1) := by decide +kernel
theorem dX12_recipient_155 : decode cX12_recipient 155 = .ok (.iaload, 1) := by decide +kernel
theorem dX12_recipient_156 : decode cX12_recipient 156 = .ok (.iastore, 1) := by decide +kernel
theorem dX12_recipient_157 : decode cX12_recipient 157 = .ok (.iinc 3 1, 3) := by decide +kernel
theorem dX12_recipient_160 : decode cX12_recipient 160 = .ok (.goto (-31), 3) := by decide +kernel
theorem dX12_recipient_33 : decode cX12_recipient 33 = .ok (.istore_n 1, 1) := by decide +kernel
theorem dX12_recipient_34 : decode cX12_recipient 34 = .ok (.iload_n 1, 1) := by decide +kernel
theorem dX12_recipient_35 : decode cX12_recipient 35 = .ok (.ifCond .ne 12, 3) := by decide +kernel
theorem dX12_recipient_47 : decode cX12_recipient 47 = .ok (.aload_n 0, 1) := by decide +kernel
theorem kX12_userOf : h_ml mX12_userOf 0 := ⟨h_t11 8 rfl rfl, h_t1 16 rfl rfl, ⟨by decide, by decide, by decide +kernel⟩, by decide⟩
theorem lX12_1160 : Cond.methodLink RX12 1160 mX12_userOf.1 ∈ lw_g := h_t11 5 rfl rfl
theorem sX12_userOf : Cond.instanceMethod mX12_userOf.1 ∈ lw_g ∧ Cond.selects mX12_userOf.1.cls mX12_userOf.1 mX12_userOf.1 ∈ lw_g := ⟨h_t11 7 rfl rfl, h_ins 248 rfl⟩
theorem dX12_recipient_48 : decode cX12_recipient 48 = .ok (.invokevirtual 1160, 3) := by decide +kernel
theorem dX12_recipient_51 : decode cX12_recipient 51 = .ok (.istore_n 2, 1) := by decide +kernel
theorem dX12_recipient_52 : decode cX12_recipient 52 = .ok (.aload_n 0, 1) := by decide +kernel
theorem dX12_recipient_53 : decode cX12_recipient 53 = .ok (.getfield 1029, 3) := by decide +kernel
theorem dX12_recipient_56 : decode cX12_recipient 56 = .ok (.ifCond .ne 14, 3) := by decide +kernel
theorem dX12_recipient_70 : decode cX12_recipient 70 = .ok (.iload_n 2, 1) := by decide +kernel
theorem dX12_recipient_71 : decode cX12_recipient 71 = .ok (.ifCond .ge 14, 3) := by decide +kernel
theorem dX12_recipient_85 : decode cX12_recipient 85 = .ok (.aload_n 0, 1) := by decide +kernel
theorem dX12_recipient_86 : decode cX12_recipient 86 = .ok (.getfield 1032, 3) := by decide +kernel
theorem dX12_recipient_89 : decode cX12_recipient 89 = .ok (.iconst 4, 1) := by decide +kernel
theorem dX12_recipient_90 : decode cX12_recipient 90 = .ok (.if_icmp .ne 14, 3) := by decide +kernel
theorem dX12_recipient_104 : decode cX12_recipient 104 = .ok (.aload_n 0, 1) := by decide +kernel
theorem dX12_recipient_105 : decode cX12_recipient 105 = .ok (.getfield 963, 3) := by decide +kernel
theorem dX12_recipient_108 : decode cX12_recipient 108 = .ok (.aload_n 0, 1) := by decide +kernel
theorem dX12_recipient_109 : decode cX12_recipient 109 = .ok (.getfield 1032, 3) := by decide +kernel
theorem dX12_recipient_112 : decode cX12_recipient 112 = .ok (.iload_n 2, 1) := by decide +kernel
theorem dX12_recipient_113 : decode cX12_recipient 113 = .ok (.iastore, 1) := by decide +kernel
theorem dX12_recipient_114 : decode cX12_recipient 114 = .ok (.aload_n 0, 1) := by decide +kernel
theorem dX12_recipient_115 : decode cX12_recipient 115 = .ok (.getfield 966, 3) := by decide +kernel
theorem dX12_recipient_118 : decode cX12_recipient 118 = .ok (.aload_n 0, 1) := by decide +kernel
theorem dX12_recipient_119 : decode cX12_recipient 119 = .ok (.getfield 1032, 3) := by decide +kernel
theorem dX12_recipient_122 : decode cX12_recipient 122 = .ok (.aload_n 0, 1) := by decide +kernel
theorem dX12_recipient_123 : decode cX12_recipient 123 = .ok (.getfield 110, 3) := by decide +kernel
theorem dX12_recipient_126 : decode cX12_recipient 126 = .ok (.iastore, 1) := by decide +kernel
theorem dX12_recipient_127 : decode cX12_recipient 127 = .ok (.iconst 0, 1) := by decide +kernel
theorem dX12_recipient_128 : decode cX12_recipient 128 = .ok (.istore_n 3, 1) := by decide +kernel
theorem dX12_recipient_93 : decode cX12_recipient 93 = .ok (.aload_n 0, 1) := by decide +kernel
theorem dX12_recipient_94 : decode cX12_recipient 94 = .ok (.iconst 4, 1) := by decide +kernel
theorem dX12_recipient_95 : decode cX12_recipient 95 = .ok (.ldc_w 1165, 3) := by decide +kernel
theorem dX12_recipient_98 : decode cX12_recipient 98 = .ok (.invokevirtual 974, 3) := by decide +kernel
theorem dX12_recipient_101 : decode cX12_recipient 101 = .ok (.goto 80, 3) := by decide +kernel
theorem dX12_recipient_74 : decode cX12_recipient 74 = .ok (.aload_n 0, 1) := by decide +kernel
theorem dX12_recipient_75 : decode cX12_recipient 75 = .ok (.iconst 4, 1) := by decide +kernel
theorem dX12_recipient_76 : decode cX12_recipient 76 = .ok (.ldc_w 1163, 3) := by decide +kernel
theorem dX12_recipient_79 : decode cX12_recipient 79 = .ok (.invokevirtual 974, 3) := by decide +kernel
theorem dX12_recipient_82 : decode cX12_recipient 82 = .ok (.goto 99, 3) := by decide +kernel
theorem dX12_recipient_59 : decode cX12_recipient 59 = .ok (.aload_n 0, 1) := by decide +kernel
theorem dX12_recipient_60 : decode cX12_recipient 60 = .ok (.iconst 4, 1) := by decide +kernel
theorem dX12_recipient_61 : decode cX12_recipient 61 = .ok (.ldc_w 1108, 3) := by decide +kernel
theorem dX12_recipient_64 : decode cX12_recipient 64 = .ok (.invokevirtual 974, 3) := by decide +kernel
theorem dX12_recipient_67 : decode cX12_recipient 67 = .ok (.goto 114, 3) := by decide +kernel
theorem dX12_recipient_38 : decode cX12_recipient 38 = .ok (.aload_n 0, 1) := by decide +kernel
theorem dX12_recipient_39 : decode cX12_recipient 39 = .ok (.iconst 4, 1) := by decide +kernel
theorem dX12_recipient_40 : decode cX12_recipient 40 = .ok (.ldc_w 1077, 3) := by decide +kernel
theorem dX12_recipient_43 : decode cX12_recipient 43 = .ok (.invokevirtual 974, 3) := by decide +kernel
theorem dX12_recipient_46 : decode cX12_recipient 46 = .ok (.return_, 1) := by decide +kernel
theorem dX12_recipient_0 : decode cX12_recipient 0 = .ok (.aload_n 0, 1) := by decide +kernel
theorem dX12_recipient_1 : decode cX12_recipient 1 = .ok (.ldc_w 1158, 3) := by decide +kernel
theorem dX12_recipient_4 : decode cX12_recipient 4 = .ok (.invokevirtual 1074, 3) := by decide +kernel
theorem dX12_recipient_7 : decode cX12_recipient 7 = .ok (.ifCond .eq 25, 3) := by decide +kernel
theorem dX12_recipient_32 : decode cX12_recipient 32 = .ok (.iconst 0, 1) := by decide +kernel
theorem dX12_recipient_10 : decode cX12_recipient 10 = .ok (.aload_n 0, 1) := by decide +kernel
theorem kX12_path : h_ml mX12_path 0 := ⟨h_t10 230 rfl rfl, h_t1 16 rfl rfl, ⟨by decide, by decide, by decide +kernel⟩, by decide⟩
theorem lX12_1147 : Cond.methodLink RX12 1147 mX12_path.1 ∈ lw_g := h_t10 227 rfl rfl
theorem sX12_path : Cond.instanceMethod mX12_path.1 ∈ lw_g ∧ Cond.selects mX12_path.1.cls mX12_path.1 mX12_path.1 ∈ lw_g := ⟨h_t10 229 rfl rfl, h_ins 245 rfl⟩
theorem dX12_recipient_11 : decode cX12_recipient 11 = .ok (.invokevirtual 1147, 3) := by decide +kernel
theorem dX12_recipient_14 : decode cX12_recipient 14 = .ok (.ifCond .eq 18, 3) := by decide +kernel
theorem dX12_recipient_17 : decode cX12_recipient 17 = .ok (.aload_n 0, 1) := by decide +kernel
theorem dX12_recipient_18 : decode cX12_recipient 18 = .ok (.getfield 1068, 3) := by decide +kernel
theorem dX12_recipient_21 : decode cX12_recipient 21 = .ok (.aload_n 0, 1) := by decide +kernel
theorem dX12_recipient_22 : decode cX12_recipient 22 = .ok (.getfield 1071, 3) := by decide +kernel
theorem dX12_recipient_25 : decode cX12_recipient 25 = .ok (.if_icmp .ne 7, 3) := by decide +kernel
theorem dX12_recipient_28 : decode cX12_recipient 28 = .ok (.iconst 1, 1) := by decide +kernel
theorem dX12_recipient_29 : decode cX12_recipient 29 = .ok (.goto 4, 3) := by decide +kernel
def fb_X12_recipient_129 (K129 : Int32 → uS → Option uS) (x3 : Int32) (s : uS) : Option uS := if (s.I 1079 21) ≤ x3 then ((fn_X12_line 4 kW_190 (wI s 1079 117 ((s.I 1079 117) + 1))).bind fun s3 => some s3) else ((iget 20 s 1093 x3).bind fun v5 => (iput 20 s 1145 (((101 : Int32) * (s.I 1079 117)) + x3) v5).bind fun s7 => K129 (x3 + 1) s7)
set_option maxRecDepth 100000 in
set_option maxHeartbeats 4000000 in
theorem xb_X12_recipient_129 {l : Launch} {D : va_G} {A : Nat → ClassId} {B : Nat} {Z : State → Heap → Prop} {vF : Value} (uk : uK B Z vF) {K129 : Int32 → uS → Option uS} (hK129 : ∀ (x3 : Int32)  (s : uS) (r : uS), K129 x3 s = some r → GU l D A B Z mX12_recipient 7 (r, none) s 129 [(0, .ref (B + 1079)), (3, .int x3)] []) {x3 : Int32} {s : uS} {r : uS}  (h : fb_X12_recipient_129 K129 x3 s = some r) : GU l D A B Z mX12_recipient 7 (r, none) s 129 [(0, .ref (B + 1079)), (3, .int x3)] [] := by
  unfold fb_X12_recipient_129 at h
  refine uu_iload_n dX12_recipient_129 rfl (List.mem_of_getElem? (i := 1) rfl) ?_
  refine uu_aload_n dX12_recipient_130 rfl (List.mem_of_getElem? (i := 0) rfl) ?_
  refine uu_geti (ci := 12) (N := 153) fX12_110 (by decide) so_1079.is (by decide) (by decide) dX12_recipient_131 ?_
  refine uu_icmp_ge (tgt := 163) dX12_recipient_134 (by decide) (fun c1 => ?_) (fun c1 => ?_)
  · replace h := uu_pos c1 h
    refine uu_aload_n dX12_recipient_163 rfl (List.mem_of_getElem? (i := 0) rfl) ?_
    refine uu_aload_n dX12_recipient_164 rfl (List.mem_of_getElem? (i := 0) rfl) ?_
    refine uu_geti (ci := 12) (N := 153) fX12_1032 (by decide) so_1079.is (by decide) (by decide) dX12_recipient_165 ?_
    refine uu_iconst (v := 1) dX12_recipient_168 (by decide) ?_
    refine uu_iadd dX12_recipient_169 ?_
    refine uu_puti (ft := .int) (ci := 12) (N := 153) fX12_1032 ptX12 (Or.inl rfl) (by decide) so_1079.is (by decide) (by decide) (by decide +kernel) rfl rfl dX12_recipient_170 ?_
    refine uu_aload_n dX12_recipient_173 rfl (List.mem_of_getElem? (i := 0) rfl) ?_
    refine uu_iconst (v := 4) dX12_recipient_174 (by decide) ?_
    obtain ⟨cq2, cp2, cv2, cw2⟩ := uk.2.1 190 _ rfl
    refine uu_ldcwS cv2 dX12_recipient_175 ?_
    obtain ⟨s3, e4, h⟩ := uu_ob h
    refine uu_cv (d1 := 5) (k := 1079) (ci := 12) (T := TX12) (N := 153) (As := [.int 4, .ref cq2]) (st := []) (st' := []) (xc_X12_line uk cw2 e4) so_1079.is (by decide) rfl kX12_line lX12_974 sX12_line (by decide) (Nat.le_of_ble_eq_true rfl) dX12_recipient_178 rfl ?_
    have hr := Option.some.inj h
    subst hr
    exact uu_vret rfl dX12_recipient_181
  · replace h := uu_neg c1 h
    refine uu_aload_n dX12_recipient_137 rfl (List.mem_of_getElem? (i := 0) rfl) ?_
    refine uu_geta (ci := 12) (N := 153) fX12_969 (by decide) so_1079.is (by decide) (c := 1145) (by decide) dX12_recipient_138 ?_
    refine uu_bipush (v := 101) dX12_recipient_141 (by decide) ?_
    refine uu_aload_n dX12_recipient_143 rfl (List.mem_of_getElem? (i := 0) rfl) ?_
    refine uu_geti (ci := 12) (N := 153) fX12_1032 (by decide) so_1079.is (by decide) (by decide) dX12_recipient_144 ?_
    refine uu_imul dX12_recipient_147 ?_
    refine uu_iload_n dX12_recipient_148 rfl (List.mem_of_getElem? (i := 1) rfl) ?_
    refine uu_iadd dX12_recipient_149 ?_
    refine uu_aload_n dX12_recipient_150 rfl (List.mem_of_getElem? (i := 0) rfl) ?_
    refine uu_geta (ci := 12) (N := 153) fX12_116 (by decide) so_1079.is (by decide) (c := 1093) (by decide) dX12_recipient_151 ?_
    refine uu_iload_n dX12_recipient_154 rfl (List.mem_of_getElem? (i := 1) rfl) ?_
    obtain ⟨v5, e6, h⟩ := uu_ob h
    refine uu_iald e6 dX12_recipient_155 ?_
    obtain ⟨s7, e8, h⟩ := uu_ob h
    refine uu_iast e8 dX12_recipient_156 ?_
    refine uu_iinc (v := x3 + 1) dX12_recipient_157 (k := 1) rfl rfl (by decide) rfl ?_
    refine uu_goto (tgt := 129) dX12_recipient_160 (by decide) ?_
    refine uu_lv [1, 0] (lv' := [(0, .ref (B + 1079)), (3, .int (x3 + 1))]) rfl ?_
    exact hK129 (x3 + 1) _ _ h
def fn_X12_recipient_129  : Nat → Int32 → uS → Option uS
  | 0 => fun _ _ => none
  | n + 1 => fb_X12_recipient_129 (fn_X12_recipient_129  n)
set_option maxRecDepth 100000 in
set_option maxHeartbeats 4000000 in
theorem xn_X12_recipient_129 {l : Launch} {D : va_G} {A : Nat → ClassId} {B : Nat} {Z : State → Heap → Prop} {vF : Value} (uk : uK B Z vF)   : ∀ (n : Nat) (x3 : Int32)  (s : uS) (r : uS), fn_X12_recipient_129  n x3 s = some r → GU l D A B Z mX12_recipient 7 (r, none) s 129 [(0, .ref (B + 1079)), (3, .int x3)] [] := by
  intro n
  induction n with
  | zero => intro x3 s r h
            cases h
  | succ n ih => intro x3 s r h
                 exact xb_X12_recipient_129 uk ih  h
def fb_X12_recipient_33  (bs0 : Bool) (s : uS) : Option uS := if bs0 = true then ((fn_X12_userOf s).bind fun r2 => if (r2.1.I 1079 115) = 0 then ((fn_X12_line 4 kW_175 r2.1).bind fun s18 => some s18) else (if 0 ≤ r2.2 then (if (r2.1.I 1079 117) = 4 then ((fn_X12_line 4 kW_189 r2.1).bind fun s12 => some s12) else ((iput 20 r2.1 1144 (r2.1.I 1079 117) r2.2).bind fun s7 => (iput 20 s7 1146 (s7.I 1079 117) (s7.I 1079 21)).bind fun s9 => fn_X12_recipient_129 uFu 0 s9)) else ((fn_X12_line 4 kW_188 r2.1).bind fun s15 => some s15))) else ((fn_X12_line 4 kW_165 s).bind fun s21 => some s21)
set_option maxRecDepth 100000 in
set_option maxHeartbeats 4000000 in
theorem xb_X12_recipient_33 {l : Launch} {D : va_G} {A : Nat → ClassId} {B : Nat} {Z : State → Heap → Prop} {vF : Value} (uk : uK B Z vF)   {bs0 : Bool} {s : uS} {r : uS}  (h : fb_X12_recipient_33  bs0 s = some r) : GU l D A B Z mX12_recipient 7 (r, none) s 33 [(0, .ref (B + 1079))] [.int (bI bs0)] := by
  unfold fb_X12_recipient_33 at h
  refine uu_istore_n dX12_recipient_33 rfl (by decide) rfl ?_
  refine uu_iload_n dX12_recipient_34 rfl (List.mem_of_getElem? (i := 0) rfl) ?_
  refine uu_ifb_ne (tgt := 47) dX12_recipient_35 (by decide) (fun c1 => ?_) (fun c1 => ?_)
  · replace h := uu_pos c1 h
    refine uu_aload_n dX12_recipient_47 rfl (List.mem_of_getElem? (i := 1) rfl) ?_
    obtain ⟨r2, e3, h⟩ := uu_ob h
    refine uu_cv (d1 := 6) (k := 1079) (ci := 12) (T := TX12) (N := 153) (As := []) (st := []) (st' := [.int r2.2]) (xc_X12_userOf uk  e3) so_1079.is (by decide) rfl kX12_userOf lX12_1160 sX12_userOf (by decide) (Nat.le_of_ble_eq_true rfl) dX12_recipient_48 rfl ?_
    refine uu_istore_n dX12_recipient_51 rfl (by decide) rfl ?_
    refine uu_aload_n dX12_recipient_52 rfl (List.mem_of_getElem? (i := 2) rfl) ?_
    refine uu_geti (ci := 12) (N := 153) fX12_1029 (by decide) so_1079.is (by decide) (by decide) dX12_recipient_53 ?_
    refine uu_if_ne (tgt := 70) dX12_recipient_56 (by decide) (fun c4 => ?_) (fun c4 => ?_)
    · replace h := uu_neg c4 h
      refine uu_iload_n dX12_recipient_70 rfl (List.mem_of_getElem? (i := 0) rfl) ?_
      refine uu_if_ge (tgt := 85) dX12_recipient_71 (by decide) (fun c5 => ?_) (fun c5 => ?_)
      · replace h := uu_pos c5 h
        refine uu_aload_n dX12_recipient_85 rfl (List.mem_of_getElem? (i := 2) rfl) ?_
        refine uu_geti (ci := 12) (N := 153) fX12_1032 (by decide) so_1079.is (by decide) (by decide) dX12_recipient_86 ?_
        refine uu_iconst (v := 4) dX12_recipient_89 (by decide) ?_
        refine uu_icmp_ne (tgt := 104) dX12_recipient_90 (by decide) (fun c6 => ?_) (fun c6 => ?_)
        · replace h := uu_neg c6 h
          refine uu_aload_n dX12_recipient_104 rfl (List.mem_of_getElem? (i := 2) rfl) ?_
          refine uu_geta (ci := 12) (N := 153) fX12_963 (by decide) so_1079.is (by decide) (c := 1144) (by decide) dX12_recipient_105 ?_
          refine uu_aload_n dX12_recipient_108 rfl (List.mem_of_getElem? (i := 2) rfl) ?_
          refine uu_geti (ci := 12) (N := 153) fX12_1032 (by decide) so_1079.is (by decide) (by decide) dX12_recipient_109 ?_
          refine uu_iload_n dX12_recipient_112 rfl (List.mem_of_getElem? (i := 0) rfl) ?_
          obtain ⟨s7, e8, h⟩ := uu_ob h
          refine uu_iast e8 dX12_recipient_113 ?_
          refine uu_aload_n dX12_recipient_114 rfl (List.mem_of_getElem? (i := 2) rfl) ?_
          refine uu_geta (ci := 12) (N := 153) fX12_966 (by decide) so_1079.is (by decide) (c := 1146) (by decide) dX12_recipient_115 ?_
          refine uu_aload_n dX12_recipient_118 rfl (List.mem_of_getElem? (i := 2) rfl) ?_
          refine uu_geti (ci := 12) (N := 153) fX12_1032 (by decide) so_1079.is (by decide) (by decide) dX12_recipient_119 ?_
          refine uu_aload_n dX12_recipient_122 rfl (List.mem_of_getElem? (i := 2) rfl) ?_
          refine uu_geti (ci := 12) (N := 153) fX12_110 (by decide) so_1079.is (by decide) (by decide) dX12_recipient_123 ?_
          obtain ⟨s9, e10, h⟩ := uu_ob h
          refine uu_iast e10 dX12_recipient_126 ?_
          refine uu_iconst (v := 0) dX12_recipient_127 (by decide) ?_
          refine uu_istore_n dX12_recipient_128 rfl (by decide) rfl ?_
          refine uu_lv [3, 0] (lv' := [(0, .ref (B + 1079)), (3, .int 0)]) rfl ?_
          exact xn_X12_recipient_129 uk  _ _ _ _ h
        · replace h := uu_pos c6 h
          refine uu_aload_n dX12_recipient_93 rfl (List.mem_of_getElem? (i := 2) rfl) ?_
          refine uu_iconst (v := 4) dX12_recipient_94 (by decide) ?_
          obtain ⟨cq11, cp11, cv11, cw11⟩ := uk.2.1 189 _ rfl
          refine uu_ldcwS cv11 dX12_recipient_95 ?_
          obtain ⟨s12, e13, h⟩ := uu_ob h
          refine uu_cv (d1 := 5) (k := 1079) (ci := 12) (T := TX12) (N := 153) (As := [.int 4, .ref cq11]) (st := []) (st' := []) (xc_X12_line uk cw11 e13) so_1079.is (by decide) rfl kX12_line lX12_974 sX12_line (by decide) (Nat.le_of_ble_eq_true rfl) dX12_recipient_98 rfl ?_
          refine uu_goto (tgt := 181) dX12_recipient_101 (by decide) ?_
          have hr := Option.some.inj h
          subst hr
          exact uu_vret rfl dX12_recipient_181
      · replace h := uu_neg c5 h
        refine uu_aload_n dX12_recipient_74 rfl (List.mem_of_getElem? (i := 2) rfl) ?_
        refine uu_iconst (v := 4) dX12_recipient_75 (by decide) ?_
        obtain ⟨cq14, cp14, cv14, cw14⟩ := uk.2.1 188 _ rfl
        refine uu_ldcwS cv14 dX12_recipient_76 ?_
        obtain ⟨s15, e16, h⟩ := uu_ob h
        refine uu_cv (d1 := 5) (k := 1079) (ci := 12) (T := TX12) (N := 153) (As := [.int 4, .ref cq14]) (st := []) (st' := []) (xc_X12_line uk cw14 e16) so_1079.is (by decide) rfl kX12_line lX12_974 sX12_line (by decide) (Nat.le_of_ble_eq_true rfl) dX12_recipient_79 rfl ?_
        refine uu_goto (tgt := 181) dX12_recipient_82 (by decide) ?_
        have hr := Option.some.inj h
        subst hr
        exact uu_vret rfl dX12_recipient_181
    · replace h := uu_pos c4 h
      refine uu_aload_n dX12_recipient_59 rfl (List.mem_of_getElem? (i := 2) rfl) ?_
      refine uu_iconst (v := 4) dX12_recipient_60 (by decide) ?_
      obtain ⟨cq17, cp17, cv17, cw17⟩ := uk.2.1 175 _ rfl
      refine uu_ldcwS cv17 dX12_recipient_61 ?_
      obtain ⟨s18, e19, h⟩ := uu_ob h
      refine uu_cv (d1 := 5) (k := 1079) (ci := 12) (T := TX12) (N := 153) (As := [.int 4, .ref cq17]) (st := []) (st' := []) (xc_X12_line uk cw17 e19) so_1079.is (by decide) rfl kX12_line lX12_974 sX12_line (by decide) (Nat.le_of_ble_eq_true rfl) dX12_recipient_64 rfl ?_
      refine uu_goto (tgt := 181) dX12_recipient_67 (by decide) ?_
      have hr := Option.some.inj h
      subst hr
      exact uu_vret rfl dX12_recipient_181
  · replace h := uu_neg c1 h
    refine uu_aload_n dX12_recipient_38 rfl (List.mem_of_getElem? (i := 1) rfl) ?_
    refine uu_iconst (v := 4) dX12_recipient_39 (by decide) ?_
    obtain ⟨cq20, cp20, cv20, cw20⟩ := uk.2.1 165 _ rfl
    refine uu_ldcwS cv20 dX12_recipient_40 ?_
    obtain ⟨s21, e22, h⟩ := uu_ob h
    refine uu_cv (d1 := 5) (k := 1079) (ci := 12) (T := TX12) (N := 153) (As := [.int 4, .ref cq20]) (st := []) (st' := []) (xc_X12_line uk cw20 e22) so_1079.is (by decide) rfl kX12_line lX12_974 sX12_line (by decide) (Nat.le_of_ble_eq_true rfl) dX12_recipient_43 rfl ?_
    have hr := Option.some.inj h
    subst hr
    exact uu_vret rfl dX12_recipient_46
def fn_X12_recipient  (s : uS) : Option uS := (fn_X12_stands kW_187 s).bind fun r2 => if r2.2 = true then ((fn_X12_path r2.1).bind fun r5 => if r5.2 = true then (if (r5.1.I 1079 127) = (r5.1.I 1079 126) then (fb_X12_recipient_33 true r5.1) else (fb_X12_recipient_33 false r5.1)) else (fb_X12_recipient_33 false r5.1)) else (fb_X12_recipient_33 false r2.1)
set_option maxRecDepth 100000 in
set_option maxHeartbeats 4000000 in
theorem xc_X12_recipient {l : Launch} {D : va_G} {A : Nat → ClassId} {B : Nat} {Z : State → Heap → Prop} {vF : Value} (uk : uK B Z vF)  {s : uS} {r : uS}  (h : fn_X12_recipient  s = some r) : CU l D A B Z 7 mX12_recipient s [.ref (B + 1079)] (r, none) := by
  unfold fn_X12_recipient at h
  refine cu_of rfl uk.1.1 (Nat.le_of_ble_eq_true rfl) ?_
  show GU _ _ _ _ _ _ _ _ _ 0 [(0, .ref (B + 1079))] []
  refine uu_aload_n dX12_recipient_0 rfl (List.mem_of_getElem? (i := 0) rfl) ?_
  obtain ⟨cq1, cp1, cv1, cw1⟩ := uk.2.1 187 _ rfl
  refine uu_ldcwS cv1 dX12_recipient_1 ?_
  obtain ⟨r2, e3, h⟩ := uu_ob h
  refine uu_cv (d1 := 4) (k := 1079) (ci := 12) (T := TX12) (N := 153) (As := [.ref cq1]) (st := []) (st' := [.int (bI r2.2)]) (xc_X12_stands uk cw1 e3) so_1079.is (by decide) rfl kX12_stands lX12_1074 sX12_stands (by decide) (Nat.le_of_ble_eq_true rfl) dX12_recipient_4 rfl ?_
  refine uu_ifb_eq (tgt := 32) dX12_recipient_7 (by decide) (fun c4 => ?_) (fun c4 => ?_)
  · replace h := uu_neg c4 h
    refine uu_iconst (v := 0) dX12_recipient_32 (by decide) ?_
    exact xb_X12_recipient_33 uk  h
  · replace h := uu_pos c4 h
    refine uu_aload_n dX12_recipient_10 rfl (List.mem_of_getElem? (i := 0) rfl) ?_
    obtain ⟨r5, e6, h⟩ := uu_ob h
    refine uu_cv (d1 := 5) (k := 1079) (ci := 12) (T := TX12) (N := 153) (As := []) (st := []) (st' := [.int (bI r5.2)]) (xc_X12_path uk  e6) so_1079.is (by decide) rfl kX12_path lX12_1147 sX12_path (by decide) (Nat.le_of_ble_eq_true rfl) dX12_recipient_11 rfl ?_
    refine uu_ifb_eq (tgt := 32) dX12_recipient_14 (by decide) (fun c7 => ?_) (fun c7 => ?_)
    · replace h := uu_neg c7 h
      refine uu_iconst (v := 0) dX12_recipient_32 (by decide) ?_
      exact xb_X12_recipient_33 uk  h
    · replace h := uu_pos c7 h
      refine uu_aload_n dX12_recipient_17 rfl (List.mem_of_getElem? (i := 0) rfl) ?_
      refine uu_geti (ci := 12) (N := 153) fX12_1068 (by decide) so_1079.is (by decide) (by decide) dX12_recipient_18 ?_
      refine uu_aload_n dX12_recipient_21 rfl (List.mem_of_getElem? (i := 0) rfl) ?_
      refine uu_geti (ci := 12) (N := 153) fX12_1071 (by decide) so_1079.is (by decide) (by decide) dX12_recipient_22 ?_
      refine uu_icmp_ne (tgt := 32) dX12_recipient_25 (by decide) (fun c8 => ?_) (fun c8 => ?_)
      · replace h := uu_neg c8 h
        refine uu_iconst (v := 0) dX12_recipient_32 (by decide) ?_
        exact xb_X12_recipient_33 uk  h
      · replace h := uu_pos c8 h
        refine uu_iconst (v := 1) dX12_recipient_28 (by decide) ?_
        refine uu_goto (tgt := 33) dX12_recipient_29 (by decide) ?_
        exact xb_X12_recipient_33 uk  h
