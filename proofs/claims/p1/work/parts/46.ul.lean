abbrev mX12_beginParts : hM := (yX12_beginParts, cX12_beginParts, 1, none)
theorem dX12_beginParts_0 : decode cX12_beginParts 0 = .ok (.aload_n 0, 1) := by decide +kernel
theorem dX12_beginParts_1 : decode cX12_beginParts 1 = .ok (.iconst 0, 1) := by decide +kernel
theorem fX12_162 : h_fl RX12 162 12 24 RX12 TX12 153 := ⟨rfl, by decide, inX12, h_t11 225 rfl rfl⟩
theorem dX12_beginParts_2 : decode cX12_beginParts 2 = .ok (.putfield 162, 3) := by decide +kernel
theorem dX12_beginParts_5 : decode cX12_beginParts 5 = .ok (.aload_n 0, 1) := by decide +kernel
theorem dX12_beginParts_6 : decode cX12_beginParts 6 = .ok (.iconst 1, 1) := by decide +kernel
theorem fX12_165 : h_fl RX12 165 12 25 RX12 TX12 153 := ⟨rfl, by decide, inX12, h_t11 226 rfl rfl⟩
theorem dX12_beginParts_7 : decode cX12_beginParts 7 = .ok (.putfield 165, 3) := by decide +kernel
theorem dX12_beginParts_10 : decode cX12_beginParts 10 = .ok (.return_, 1) := by decide +kernel
def fn_X12_beginParts  (s : uS) : Option uS := some (wI (wI s 1079 24 0) 1079 25 1)
set_option maxRecDepth 100000 in
set_option maxHeartbeats 4000000 in
theorem xc_X12_beginParts {l : Launch} {D : va_G} {A : Nat → ClassId} {B : Nat} {Z : State → Heap → Prop} {vF : Value} (uk : uK B Z vF)  {s : uS} {r : uS}  (h : fn_X12_beginParts  s = some r) : CU l D A B Z 0 mX12_beginParts s [.ref (B + 1079)] (r, none) := by
  unfold fn_X12_beginParts at h
  refine cu_of rfl uk.1.1 (Nat.le_of_ble_eq_true rfl) ?_
  show GU _ _ _ _ _ _ _ _ _ 0 [(0, .ref (B + 1079))] []
  refine uu_aload_n dX12_beginParts_0 rfl (List.mem_of_getElem? (i := 0) rfl) ?_
  refine uu_iconst (v := 0) dX12_beginParts_1 (by decide) ?_
  refine uu_puti (ft := .int) (ci := 12) (N := 153) fX12_162 ptX12 (Or.inl rfl) (by decide) so_1079.is (by decide) (by decide) (by decide +kernel) rfl rfl dX12_beginParts_2 ?_
  refine uu_aload_n dX12_beginParts_5 rfl (List.mem_of_getElem? (i := 0) rfl) ?_
  refine uu_iconst (v := 1) dX12_beginParts_6 (by decide) ?_
  refine uu_puti (ft := .boolean) (ci := 12) (N := 153) fX12_165 ptX12 (Or.inl rfl) (by decide) so_1079.is (by decide) (by decide) (by decide +kernel) rfl rfl dX12_beginParts_7 ?_
  have hr := Option.some.inj h
  subst hr
  exact uu_vret rfl dX12_beginParts_10
abbrev mX12_keepWhole : hM := (yX12_keepWhole, cX12_keepWhole, 2, none)
theorem dX12_keepWhole_10 : decode cX12_keepWhole 10 = .ok (.iload_n 1, 1) := by decide +kernel
theorem dX12_keepWhole_11 : decode cX12_keepWhole 11 = .ok (.aload_n 0, 1) := by decide +kernel
theorem dX12_keepWhole_12 : decode cX12_keepWhole 12 = .ok (.getfield 110, 3) := by decide +kernel
theorem dX12_keepWhole_15 : decode cX12_keepWhole 15 = .ok (.if_icmp .ge 21, 3) := by decide +kernel
theorem dX12_keepWhole_36 : decode cX12_keepWhole 36 = .ok (.return_, 1) := by decide +kernel
theorem dX12_keepWhole_18 : decode cX12_keepWhole 18 = .ok (.aload_n 0, 1) := by decide +kernel
theorem dX12_keepWhole_19 : decode cX12_keepWhole 19 = .ok (.getfield 171, 3) := by decide +kernel
theorem dX12_keepWhole_22 : decode cX12_keepWhole 22 = .ok (.iload_n 1, 1) := by decide +kernel
theorem dX12_keepWhole_23 : decode cX12_keepWhole 23 = .ok (.aload_n 0, 1) := by decide +kernel
theorem dX12_keepWhole_24 : decode cX12_keepWhole 24 = .ok (.getfield 116, 3) := by decide +kernel
theorem dX12_keepWhole_27 : decode cX12_keepWhole 27 = .ok (.iload_n 1, 1) := by decide +kernel
theorem dX12_keepWhole_28 : decode cX12_keepWhole 28 = .ok (.iaload, 1) := by decide +kernel
theorem dX12_keepWhole_29 : decode cX12_keepWhole 29 = .ok (.iastore, 1) := by decide +kernel
theorem dX12_keepWhole_30 : decode cX12_keepWhole 30 = .ok (.iinc 1 1, 3) := by decide +kernel
theorem dX12_keepWhole_33 : decode cX12_keepWhole 33 = .ok (.goto (-23), 3) := by decide +kernel
theorem dX12_keepWhole_0 : decode cX12_keepWhole 0 = .ok (.aload_n 0, 1) := by decide +kernel
theorem dX12_keepWhole_1 : decode cX12_keepWhole 1 = .ok (.aload_n 0, 1) := by decide +kernel
theorem dX12_keepWhole_2 : decode cX12_keepWhole 2 = .ok (.getfield 110, 3) := by decide +kernel
theorem fX12_168 : h_fl RX12 168 12 27 RX12 TX12 153 := ⟨rfl, by decide, inX12, h_t11 228 rfl rfl⟩
theorem dX12_keepWhole_5 : decode cX12_keepWhole 5 = .ok (.putfield 168, 3) := by decide +kernel
theorem dX12_keepWhole_8 : decode cX12_keepWhole 8 = .ok (.iconst 0, 1) := by decide +kernel
theorem dX12_keepWhole_9 : decode cX12_keepWhole 9 = .ok (.istore_n 1, 1) := by decide +kernel
def fb_X12_keepWhole_10 (K10 : Int32 → uS → Option uS) (x1 : Int32) (s : uS) : Option uS := if (s.I 1079 21) ≤ x1 then (some s) else ((iget 20 s 1093 x1).bind fun v2 => (iput 20 s 1095 x1 v2).bind fun s4 => K10 (x1 + 1) s4)
set_option maxRecDepth 100000 in
set_option maxHeartbeats 4000000 in
theorem xb_X12_keepWhole_10 {l : Launch} {D : va_G} {A : Nat → ClassId} {B : Nat} {Z : State → Heap → Prop} {vF : Value} (uk : uK B Z vF) {K10 : Int32 → uS → Option uS} (hK10 : ∀ (x1 : Int32)  (s : uS) (r : uS), K10 x1 s = some r → GU l D A B Z mX12_keepWhole 0 (r, none) s 10 [(0, .ref (B + 1079)), (1, .int x1)] []) {x1 : Int32} {s : uS} {r : uS}  (h : fb_X12_keepWhole_10 K10 x1 s = some r) : GU l D A B Z mX12_keepWhole 0 (r, none) s 10 [(0, .ref (B + 1079)), (1, .int x1)] [] := by
  unfold fb_X12_keepWhole_10 at h
  refine uu_iload_n dX12_keepWhole_10 rfl (List.mem_of_getElem? (i := 1) rfl) ?_
  refine uu_aload_n dX12_keepWhole_11 rfl (List.mem_of_getElem? (i := 0) rfl) ?_
  refine uu_geti (ci := 12) (N := 153) fX12_110 (by decide) so_1079.is (by decide) (by decide) dX12_keepWhole_12 ?_
  refine uu_icmp_ge (tgt := 36) dX12_keepWhole_15 (by decide) (fun c1 => ?_) (fun c1 => ?_)
  · replace h := uu_pos c1 h
    have hr := Option.some.inj h
    subst hr
    exact uu_vret rfl dX12_keepWhole_36
  · replace h := uu_neg c1 h
    refine uu_aload_n dX12_keepWhole_18 rfl (List.mem_of_getElem? (i := 0) rfl) ?_
    refine uu_geta (ci := 12) (N := 153) fX12_171 (by decide) so_1079.is (by decide) (c := 1095) (by decide) dX12_keepWhole_19 ?_
    refine uu_iload_n dX12_keepWhole_22 rfl (List.mem_of_getElem? (i := 1) rfl) ?_
    refine uu_aload_n dX12_keepWhole_23 rfl (List.mem_of_getElem? (i := 0) rfl) ?_
    refine uu_geta (ci := 12) (N := 153) fX12_116 (by decide) so_1079.is (by decide) (c := 1093) (by decide) dX12_keepWhole_24 ?_
    refine uu_iload_n dX12_keepWhole_27 rfl (List.mem_of_getElem? (i := 1) rfl) ?_
    obtain ⟨v2, e3, h⟩ := uu_ob h
    refine uu_iald e3 dX12_keepWhole_28 ?_
    obtain ⟨s4, e5, h⟩ := uu_ob h
    refine uu_iast e5 dX12_keepWhole_29 ?_
    refine uu_iinc (v := x1 + 1) dX12_keepWhole_30 (k := 1) rfl rfl (by decide) rfl ?_
    refine uu_goto (tgt := 10) dX12_keepWhole_33 (by decide) ?_
    refine uu_lv [1, 0] (lv' := [(0, .ref (B + 1079)), (1, .int (x1 + 1))]) rfl ?_
    exact hK10 (x1 + 1) _ _ h
def fn_X12_keepWhole_10  : Nat → Int32 → uS → Option uS
  | 0 => fun _ _ => none
  | n + 1 => fb_X12_keepWhole_10 (fn_X12_keepWhole_10  n)
set_option maxRecDepth 100000 in
set_option maxHeartbeats 4000000 in
theorem xn_X12_keepWhole_10 {l : Launch} {D : va_G} {A : Nat → ClassId} {B : Nat} {Z : State → Heap → Prop} {vF : Value} (uk : uK B Z vF)   : ∀ (n : Nat) (x1 : Int32)  (s : uS) (r : uS), fn_X12_keepWhole_10  n x1 s = some r → GU l D A B Z mX12_keepWhole 0 (r, none) s 10 [(0, .ref (B + 1079)), (1, .int x1)] [] := by
  intro n
  induction n with
  | zero => intro x1 s r h
            cases h
  | succ n ih => intro x1 s r h
                 exact xb_X12_keepWhole_10 uk ih  h
def fn_X12_keepWhole  (s : uS) : Option uS := fn_X12_keepWhole_10 uFu 0 (wI s 1079 27 (s.I 1079 21))
set_option maxRecDepth 100000 in
set_option maxHeartbeats 4000000 in
theorem xc_X12_keepWhole {l : Launch} {D : va_G} {A : Nat → ClassId} {B : Nat} {Z : State → Heap → Prop} {vF : Value} (uk : uK B Z vF)  {s : uS} {r : uS}  (h : fn_X12_keepWhole  s = some r) : CU l D A B Z 0 mX12_keepWhole s [.ref (B + 1079)] (r, none) := by
  unfold fn_X12_keepWhole at h
  refine cu_of rfl uk.1.1 (Nat.le_of_ble_eq_true rfl) ?_
  show GU _ _ _ _ _ _ _ _ _ 0 [(0, .ref (B + 1079))] []
  refine uu_aload_n dX12_keepWhole_0 rfl (List.mem_of_getElem? (i := 0) rfl) ?_
  refine uu_aload_n dX12_keepWhole_1 rfl (List.mem_of_getElem? (i := 0) rfl) ?_
  refine uu_geti (ci := 12) (N := 153) fX12_110 (by decide) so_1079.is (by decide) (by decide) dX12_keepWhole_2 ?_
  refine uu_puti (ft := .int) (ci := 12) (N := 153) fX12_168 ptX12 (Or.inl rfl) (by decide) so_1079.is (by decide) (by decide) (by decide +kernel) rfl rfl dX12_keepWhole_5 ?_
  refine uu_iconst (v := 0) dX12_keepWhole_8 (by decide) ?_
  refine uu_istore_n dX12_keepWhole_9 rfl (by decide) rfl ?_
  refine uu_lv [1, 0] (lv' := [(0, .ref (B + 1079)), (1, .int 0)]) rfl ?_
  exact xn_X12_keepWhole_10 uk  _ _ _ _ h
abbrev mX12_keeps : hM := (yX12_keeps, cX12_keeps, 3, (some (.boolean)))
theorem dX12_keeps_0 : decode cX12_keeps 0 = .ok (.iload_n 2, 1) := by decide +kernel
theorem dX12_keeps_1 : decode cX12_keeps 1 = .ok (.ifCond .ne 15, 3) := by decide +kernel
theorem dX12_keeps_16 : decode cX12_keeps 16 = .ok (.iconst 0, 1) := by decide +kernel
theorem dX12_keeps_17 : decode cX12_keeps 17 = .ok (.ireturn, 1) := by decide +kernel
theorem dX12_keeps_4 : decode cX12_keeps 4 = .ok (.iload_n 0, 1) := by decide +kernel
theorem dX12_keeps_5 : decode cX12_keeps 5 = .ok (.ifCond .eq 7, 3) := by decide +kernel
theorem dX12_keeps_12 : decode cX12_keeps 12 = .ok (.iconst 1, 1) := by decide +kernel
theorem dX12_keeps_13 : decode cX12_keeps 13 = .ok (.goto 4, 3) := by decide +kernel
theorem dX12_keeps_8 : decode cX12_keeps 8 = .ok (.iload_n 1, 1) := by decide +kernel
theorem dX12_keeps_9 : decode cX12_keeps 9 = .ok (.ifCond .eq 7, 3) := by decide +kernel
def fn_X12_keeps (b0 : Bool) (b1 : Bool) (x2 : Int32) (s : uS) : Option Bool := if x2 = 0 then (if b0 = true then (if b1 = true then (some true) else (some false)) else (some true)) else (some false)
set_option maxRecDepth 100000 in
set_option maxHeartbeats 4000000 in
theorem xc_X12_keeps {l : Launch} {D : va_G} {A : Nat → ClassId} {B : Nat} {Z : State → Heap → Prop} {vF : Value} (uk : uK B Z vF) {b0 : Bool} {b1 : Bool} {x2 : Int32} {s : uS} {r : Bool}  (h : fn_X12_keeps b0 b1 x2 s = some r) : CU l D A B Z 0 mX12_keeps s [.int (bI b0), .int (bI b1), .int x2] (s, some (.int (bI r))) := by
  unfold fn_X12_keeps at h
  refine cu_of rfl uk.1.1 (Nat.le_of_ble_eq_true rfl) ?_
  show GU _ _ _ _ _ _ _ _ _ 0 [(0, .int (bI b0)), (1, .int (bI b1)), (2, .int x2)] []
  refine uu_iload_n dX12_keeps_0 rfl (List.mem_of_getElem? (i := 2) rfl) ?_
  refine uu_if_ne (tgt := 16) dX12_keeps_1 (by decide) (fun c1 => ?_) (fun c1 => ?_)
  · replace h := uu_neg c1 h
    refine uu_iconst (v := 0) dX12_keeps_16 (by decide) ?_
    have hr := Option.some.inj h
    subst hr
    exact uu_zret (x := bI false) rfl (bI_z _) dX12_keeps_17
  · replace h := uu_pos c1 h
    refine uu_iload_n dX12_keeps_4 rfl (List.mem_of_getElem? (i := 0) rfl) ?_
    refine uu_ifb_eq (tgt := 12) dX12_keeps_5 (by decide) (fun c2 => ?_) (fun c2 => ?_)
    · replace h := uu_neg c2 h
      refine uu_iconst (v := 1) dX12_keeps_12 (by decide) ?_
      refine uu_goto (tgt := 17) dX12_keeps_13 (by decide) ?_
      have hr := Option.some.inj h
      subst hr
      exact uu_zret (x := bI true) rfl (bI_z _) dX12_keeps_17
    · replace h := uu_pos c2 h
      refine uu_iload_n dX12_keeps_8 rfl (List.mem_of_getElem? (i := 1) rfl) ?_
      refine uu_ifb_eq (tgt := 16) dX12_keeps_9 (by decide) (fun c3 => ?_) (fun c3 => ?_)
      · replace h := uu_neg c3 h
        refine uu_iconst (v := 0) dX12_keeps_16 (by decide) ?_
        have hr := Option.some.inj h
        subst hr
        exact uu_zret (x := bI false) rfl (bI_z _) dX12_keeps_17
      · replace h := uu_pos c3 h
        refine uu_iconst (v := 1) dX12_keeps_12 (by decide) ?_
        refine uu_goto (tgt := 17) dX12_keeps_13 (by decide) ?_
        have hr := Option.some.inj h
        subst hr
        exact uu_zret (x := bI true) rfl (bI_z _) dX12_keeps_17
abbrev mX12_add : hM := (yX12_add, cX12_add, 2, none)
theorem dX12_add_0 : decode cX12_add 0 = .ok (.aload_n 0, 1) := by decide +kernel
theorem dX12_add_1 : decode cX12_add 1 = .ok (.getfield 116, 3) := by decide +kernel
theorem dX12_add_4 : decode cX12_add 4 = .ok (.aload_n 0, 1) := by decide +kernel
theorem dX12_add_5 : decode cX12_add 5 = .ok (.getfield 110, 3) := by decide +kernel
theorem dX12_add_8 : decode cX12_add 8 = .ok (.iload_n 1, 1) := by decide +kernel
theorem dX12_add_9 : decode cX12_add 9 = .ok (.iastore, 1) := by decide +kernel
theorem dX12_add_10 : decode cX12_add 10 = .ok (.aload_n 0, 1) := by decide +kernel
theorem dX12_add_11 : decode cX12_add 11 = .ok (.aload_n 0, 1) := by decide +kernel
theorem dX12_add_12 : decode cX12_add 12 = .ok (.getfield 110, 3) := by decide +kernel
theorem dX12_add_15 : decode cX12_add 15 = .ok (.iconst 1, 1) := by decide +kernel
theorem dX12_add_16 : decode cX12_add 16 = .ok (.iadd, 1) := by decide +kernel
theorem dX12_add_17 : decode cX12_add 17 = .ok (.putfield 110, 3) := by decide +kernel
theorem dX12_add_20 : decode cX12_add 20 = .ok (.return_, 1) := by decide +kernel
def fn_X12_add (x1 : Int32) (s : uS) : Option uS := (iput 20 s 1093 (s.I 1079 21) x1).bind fun s1 => some (wI s1 1079 21 ((s1.I 1079 21) + 1))
set_option maxRecDepth 100000 in
set_option maxHeartbeats 4000000 in
theorem xc_X12_add {l : Launch} {D : va_G} {A : Nat → ClassId} {B : Nat} {Z : State → Heap → Prop} {vF : Value} (uk : uK B Z vF) {x1 : Int32} {s : uS} {r : uS}  (h : fn_X12_add x1 s = some r) : CU l D A B Z 0 mX12_add s [.ref (B + 1079), .int x1] (r, none) := by
  unfold fn_X12_add at h
  refine cu_of rfl uk.1.1 (Nat.le_of_ble_eq_true rfl) ?_
  show GU _ _ _ _ _ _ _ _ _ 0 [(0, .ref (B + 1079)), (1, .int x1)] []
  refine uu_aload_n dX12_add_0 rfl (List.mem_of_getElem? (i := 0) rfl) ?_
  refine uu_geta (ci := 12) (N := 153) fX12_116 (by decide) so_1079.is (by decide) (c := 1093) (by decide) dX12_add_1 ?_
  refine uu_aload_n dX12_add_4 rfl (List.mem_of_getElem? (i := 0) rfl) ?_
  refine uu_geti (ci := 12) (N := 153) fX12_110 (by decide) so_1079.is (by decide) (by decide) dX12_add_5 ?_
  refine uu_iload_n dX12_add_8 rfl (List.mem_of_getElem? (i := 1) rfl) ?_
  obtain ⟨s1, e2, h⟩ := uu_ob h
  refine uu_iast e2 dX12_add_9 ?_
  refine uu_aload_n dX12_add_10 rfl (List.mem_of_getElem? (i := 0) rfl) ?_
  refine uu_aload_n dX12_add_11 rfl (List.mem_of_getElem? (i := 0) rfl) ?_
  refine uu_geti (ci := 12) (N := 153) fX12_110 (by decide) so_1079.is (by decide) (by decide) dX12_add_12 ?_
  refine uu_iconst (v := 1) dX12_add_15 (by decide) ?_
  refine uu_iadd dX12_add_16 ?_
  refine uu_puti (ft := .int) (ci := 12) (N := 153) fX12_110 ptX12 (Or.inl rfl) (by decide) so_1079.is (by decide) (by decide) (by decide +kernel) rfl rfl dX12_add_17 ?_
  have hr := Option.some.inj h
  subst hr
  exact uu_vret rfl dX12_add_20
abbrev mX12_nextPart : hM := (yX12_nextPart, cX12_nextPart, 10, (some (.boolean)))
theorem dX12_nextPart_384 : decode cX12_nextPart 384 = .ok (.putfield 165, 3) := by decide +kernel
theorem dX12_nextPart_387 : decode cX12_nextPart 387 = .ok (.aload_n 0, 1) := by decide +kernel
theorem dX12_nextPart_388 : decode cX12_nextPart 388 = .ok (.iload_n 1, 1) := by decide +kernel
theorem dX12_nextPart_389 : decode cX12_nextPart 389 = .ok (.iconst 1, 1) := by decide +kernel
theorem dX12_nextPart_390 : decode cX12_nextPart 390 = .ok (.iadd, 1) := by decide +kernel
theorem dX12_nextPart_391 : decode cX12_nextPart 391 = .ok (.putfield 162, 3) := by decide +kernel
theorem dX12_nextPart_394 : decode cX12_nextPart 394 = .ok (.aload_n 0, 1) := by decide +kernel
theorem dX12_nextPart_395 : decode cX12_nextPart 395 = .ok (.iload_n 3, 1) := by decide +kernel
theorem dX12_nextPart_396 : decode cX12_nextPart 396 = .ok (.ifCond .eq 7, 3) := by decide +kernel
theorem dX12_nextPart_403 : decode cX12_nextPart 403 = .ok (.aload_n 0, 1) := by decide +kernel
theorem dX12_nextPart_404 : decode cX12_nextPart 404 = .ok (.getfield 110, 3) := by decide +kernel
theorem dX12_nextPart_407 : decode cX12_nextPart 407 = .ok (.putfield 110, 3) := by decide +kernel
theorem dX12_nextPart_410 : decode cX12_nextPart 410 = .ok (.iconst 1, 1) := by decide +kernel
theorem dX12_nextPart_411 : decode cX12_nextPart 411 = .ok (.ireturn, 1) := by decide +kernel
theorem dX12_nextPart_399 : decode cX12_nextPart 399 = .ok (.iconst 0, 1) := by decide +kernel
theorem dX12_nextPart_400 : decode cX12_nextPart 400 = .ok (.goto 7, 3) := by decide +kernel
theorem dX12_nextPart_370 : decode cX12_nextPart 370 = .ok (.aload_n 0, 1) := by decide +kernel
theorem dX12_nextPart_371 : decode cX12_nextPart 371 = .ok (.iload_n 1, 1) := by decide +kernel
theorem dX12_nextPart_372 : decode cX12_nextPart 372 = .ok (.aload_n 0, 1) := by decide +kernel
theorem dX12_nextPart_373 : decode cX12_nextPart 373 = .ok (.getfield 168, 3) := by decide +kernel
theorem dX12_nextPart_376 : decode cX12_nextPart 376 = .ok (.if_icmp .ge 7, 3) := by decide +kernel
theorem dX12_nextPart_383 : decode cX12_nextPart 383 = .ok (.iconst 0, 1) := by decide +kernel
theorem dX12_nextPart_379 : decode cX12_nextPart 379 = .ok (.iconst 1, 1) := by decide +kernel
theorem dX12_nextPart_380 : decode cX12_nextPart 380 = .ok (.goto 4, 3) := by decide +kernel
theorem dX12_nextPart_188 : decode cX12_nextPart 188 = .ok (.istore_n 2, 1) := by decide +kernel
theorem dX12_nextPart_189 : decode cX12_nextPart 189 = .ok (.goto 174, 3) := by decide +kernel
theorem dX12_nextPart_363 : decode cX12_nextPart 363 = .ok (.iload_n 1, 1) := by decide +kernel
theorem dX12_nextPart_364 : decode cX12_nextPart 364 = .ok (.iconst 1, 1) := by decide +kernel
theorem dX12_nextPart_365 : decode cX12_nextPart 365 = .ok (.iadd, 1) := by decide +kernel
theorem dX12_nextPart_366 : decode cX12_nextPart 366 = .ok (.istore_n 1, 1) := by decide +kernel
theorem dX12_nextPart_367 : decode cX12_nextPart 367 = .ok (.goto (-338), 3) := by decide +kernel
theorem dX12_nextPart_178 : decode cX12_nextPart 178 = .ok (.iload 9, 2) := by decide +kernel
theorem dX12_nextPart_180 : decode cX12_nextPart 180 = .ok (.ifCond .ne 7, 3) := by decide +kernel
theorem dX12_nextPart_187 : decode cX12_nextPart 187 = .ok (.iconst 0, 1) := by decide +kernel
theorem dX12_nextPart_183 : decode cX12_nextPart 183 = .ok (.iconst 1, 1) := by decide +kernel
theorem dX12_nextPart_184 : decode cX12_nextPart 184 = .ok (.goto 4, 3) := by decide +kernel
theorem dX12_nextPart_148 : decode cX12_nextPart 148 = .ok (.iload 8, 2) := by decide +kernel
theorem dX12_nextPart_150 : decode cX12_nextPart 150 = .ok (.ifCond .eq 28, 3) := by decide +kernel
theorem dX12_nextPart_153 : decode cX12_nextPart 153 = .ok (.iload_n 1, 1) := by decide +kernel
theorem dX12_nextPart_154 : decode cX12_nextPart 154 = .ok (.iconst 1, 1) := by decide +kernel
theorem dX12_nextPart_155 : decode cX12_nextPart 155 = .ok (.iadd, 1) := by decide +kernel
theorem dX12_nextPart_156 : decode cX12_nextPart 156 = .ok (.istore_n 1, 1) := by decide +kernel
theorem dX12_nextPart_157 : decode cX12_nextPart 157 = .ok (.iload 4, 2) := by decide +kernel
theorem dX12_nextPart_159 : decode cX12_nextPart 159 = .ok (.iload_n 3, 1) := by decide +kernel
theorem dX12_nextPart_160 : decode cX12_nextPart 160 = .ok (.iload 5, 2) := by decide +kernel
theorem kX12_keeps : h_ml mX12_keeps 3 := ⟨h_t9 166 rfl rfl, h_t1 16 rfl rfl, ⟨by decide, by decide, by decide +kernel⟩, by decide⟩
theorem lX12_174 : Cond.methodLink RX12 174 mX12_keeps.1 ∈ lw_g := h_t9 164 rfl rfl
theorem sX12_keeps : Cond.static mX12_keeps.1 ∈ lw_g := h_t9 165 rfl rfl
theorem dX12_nextPart_162 : decode cX12_nextPart 162 = .ok (.invokestatic 174, 3) := by decide +kernel
theorem dX12_nextPart_165 : decode cX12_nextPart 165 = .ok (.ifCond .eq 13, 3) := by decide +kernel
theorem dX12_nextPart_168 : decode cX12_nextPart 168 = .ok (.aload_n 0, 1) := by decide +kernel
theorem dX12_nextPart_169 : decode cX12_nextPart 169 = .ok (.aload_n 0, 1) := by decide +kernel
theorem dX12_nextPart_170 : decode cX12_nextPart 170 = .ok (.getfield 171, 3) := by decide +kernel
theorem dX12_nextPart_173 : decode cX12_nextPart 173 = .ok (.iload_n 1, 1) := by decide +kernel
theorem dX12_nextPart_174 : decode cX12_nextPart 174 = .ok (.iaload, 1) := by decide +kernel
theorem kX12_add : h_ml mX12_add 1 := ⟨h_t9 170 rfl rfl, h_t1 16 rfl rfl, ⟨by decide, by decide, by decide +kernel⟩, by decide⟩
theorem lX12_178 : Cond.methodLink RX12 178 mX12_add.1 ∈ lw_g := h_t9 167 rfl rfl
theorem sX12_add : Cond.instanceMethod mX12_add.1 ∈ lw_g ∧ Cond.selects mX12_add.1.cls mX12_add.1 mX12_add.1 ∈ lw_g := ⟨h_t9 169 rfl rfl, h_ins 183 rfl⟩
theorem dX12_nextPart_175 : decode cX12_nextPart 175 = .ok (.invokevirtual 178, 3) := by decide +kernel
theorem dX12_nextPart_129 : decode cX12_nextPart 129 = .ok (.istore 9, 2) := by decide +kernel
theorem dX12_nextPart_131 : decode cX12_nextPart 131 = .ok (.iload 4, 2) := by decide +kernel
theorem dX12_nextPart_133 : decode cX12_nextPart 133 = .ok (.iload_n 3, 1) := by decide +kernel
theorem dX12_nextPart_134 : decode cX12_nextPart 134 = .ok (.iload 5, 2) := by decide +kernel
theorem dX12_nextPart_136 : decode cX12_nextPart 136 = .ok (.invokestatic 174, 3) := by decide +kernel
theorem dX12_nextPart_139 : decode cX12_nextPart 139 = .ok (.ifCond .eq 9, 3) := by decide +kernel
theorem dX12_nextPart_142 : decode cX12_nextPart 142 = .ok (.aload_n 0, 1) := by decide +kernel
theorem dX12_nextPart_143 : decode cX12_nextPart 143 = .ok (.iload 6, 2) := by decide +kernel
theorem dX12_nextPart_145 : decode cX12_nextPart 145 = .ok (.invokevirtual 178, 3) := by decide +kernel
theorem dX12_nextPart_332 : decode cX12_nextPart 332 = .ok (.iload 6, 2) := by decide +kernel
theorem dX12_nextPart_334 : decode cX12_nextPart 334 = .ok (.bipush 32, 2) := by decide +kernel
theorem dX12_nextPart_336 : decode cX12_nextPart 336 = .ok (.if_icmp .eq 27, 3) := by decide +kernel
theorem dX12_nextPart_339 : decode cX12_nextPart 339 = .ok (.iload 6, 2) := by decide +kernel
theorem dX12_nextPart_341 : decode cX12_nextPart 341 = .ok (.bipush 9, 2) := by decide +kernel
theorem dX12_nextPart_343 : decode cX12_nextPart 343 = .ok (.if_icmp .eq 20, 3) := by decide +kernel
theorem dX12_nextPart_346 : decode cX12_nextPart 346 = .ok (.iload 4, 2) := by decide +kernel
theorem dX12_nextPart_348 : decode cX12_nextPart 348 = .ok (.iload_n 3, 1) := by decide +kernel
theorem dX12_nextPart_349 : decode cX12_nextPart 349 = .ok (.iload 5, 2) := by decide +kernel
theorem dX12_nextPart_351 : decode cX12_nextPart 351 = .ok (.invokestatic 174, 3) := by decide +kernel
theorem dX12_nextPart_354 : decode cX12_nextPart 354 = .ok (.ifCond .eq 9, 3) := by decide +kernel
theorem dX12_nextPart_357 : decode cX12_nextPart 357 = .ok (.aload_n 0, 1) := by decide +kernel
theorem dX12_nextPart_358 : decode cX12_nextPart 358 = .ok (.iload 6, 2) := by decide +kernel
theorem dX12_nextPart_360 : decode cX12_nextPart 360 = .ok (.invokevirtual 178, 3) := by decide +kernel
theorem dX12_nextPart_316 : decode cX12_nextPart 316 = .ok (.iload 6, 2) := by decide +kernel
theorem dX12_nextPart_318 : decode cX12_nextPart 318 = .ok (.bipush 62, 2) := by decide +kernel
theorem dX12_nextPart_320 : decode cX12_nextPart 320 = .ok (.if_icmp .ne 12, 3) := by decide +kernel
theorem dX12_nextPart_323 : decode cX12_nextPart 323 = .ok (.iload_n 3, 1) := by decide +kernel
theorem dX12_nextPart_324 : decode cX12_nextPart 324 = .ok (.ifCond .eq 8, 3) := by decide +kernel
theorem dX12_nextPart_327 : decode cX12_nextPart 327 = .ok (.iconst 0, 1) := by decide +kernel
theorem dX12_nextPart_328 : decode cX12_nextPart 328 = .ok (.istore_n 3, 1) := by decide +kernel
theorem dX12_nextPart_329 : decode cX12_nextPart 329 = .ok (.goto 34, 3) := by decide +kernel
theorem dX12_nextPart_241 : decode cX12_nextPart 241 = .ok (.istore_n 1, 1) := by decide +kernel
theorem dX12_nextPart_242 : decode cX12_nextPart 242 = .ok (.goto 121, 3) := by decide +kernel
theorem dX12_nextPart_227 : decode cX12_nextPart 227 = .ok (.istore 5, 2) := by decide +kernel
theorem dX12_nextPart_229 : decode cX12_nextPart 229 = .ok (.iload 8, 2) := by decide +kernel
theorem dX12_nextPart_231 : decode cX12_nextPart 231 = .ok (.ifCond .eq 9, 3) := by decide +kernel
theorem dX12_nextPart_240 : decode cX12_nextPart 240 = .ok (.iload_n 1, 1) := by decide +kernel
theorem dX12_nextPart_234 : decode cX12_nextPart 234 = .ok (.iload_n 1, 1) := by decide +kernel
theorem dX12_nextPart_235 : decode cX12_nextPart 235 = .ok (.iconst 1, 1) := by decide +kernel
theorem dX12_nextPart_236 : decode cX12_nextPart 236 = .ok (.iadd, 1) := by decide +kernel
theorem dX12_nextPart_237 : decode cX12_nextPart 237 = .ok (.goto 4, 3) := by decide +kernel
theorem dX12_nextPart_111 : decode cX12_nextPart 111 = .ok (.istore 8, 2) := by decide +kernel
theorem dX12_nextPart_113 : decode cX12_nextPart 113 = .ok (.iload_n 2, 1) := by decide +kernel
theorem dX12_nextPart_114 : decode cX12_nextPart 114 = .ok (.ifCond .eq 78, 3) := by decide +kernel
theorem dX12_nextPart_192 : decode cX12_nextPart 192 = .ok (.iload 5, 2) := by decide +kernel
theorem dX12_nextPart_194 : decode cX12_nextPart 194 = .ok (.ifCond .le 51, 3) := by decide +kernel
theorem dX12_nextPart_245 : decode cX12_nextPart 245 = .ok (.iload 6, 2) := by decide +kernel
theorem dX12_nextPart_247 : decode cX12_nextPart 247 = .ok (.bipush 40, 2) := by decide +kernel
theorem dX12_nextPart_249 : decode cX12_nextPart 249 = .ok (.if_icmp .ne 9, 3) := by decide +kernel
theorem dX12_nextPart_258 : decode cX12_nextPart 258 = .ok (.iload 6, 2) := by decide +kernel
theorem dX12_nextPart_260 : decode cX12_nextPart 260 = .ok (.bipush 34, 2) := by decide +kernel
theorem dX12_nextPart_262 : decode cX12_nextPart 262 = .ok (.if_icmp .ne 25, 3) := by decide +kernel
theorem dX12_nextPart_287 : decode cX12_nextPart 287 = .ok (.iload 6, 2) := by decide +kernel
theorem dX12_nextPart_289 : decode cX12_nextPart 289 = .ok (.bipush 60, 2) := by decide +kernel
theorem dX12_nextPart_291 : decode cX12_nextPart 291 = .ok (.if_icmp .ne 25, 3) := by decide +kernel
theorem dX12_nextPart_294 : decode cX12_nextPart 294 = .ok (.iload_n 3, 1) := by decide +kernel
theorem dX12_nextPart_295 : decode cX12_nextPart 295 = .ok (.ifCond .ne 21, 3) := by decide +kernel
theorem dX12_nextPart_298 : decode cX12_nextPart 298 = .ok (.iload 4, 2) := by decide +kernel
theorem dX12_nextPart_300 : decode cX12_nextPart 300 = .ok (.ifCond .ne 16, 3) := by decide +kernel
theorem dX12_nextPart_303 : decode cX12_nextPart 303 = .ok (.iconst 1, 1) := by decide +kernel
theorem dX12_nextPart_304 : decode cX12_nextPart 304 = .ok (.istore_n 3, 1) := by decide +kernel
theorem dX12_nextPart_305 : decode cX12_nextPart 305 = .ok (.iconst 1, 1) := by decide +kernel
theorem dX12_nextPart_306 : decode cX12_nextPart 306 = .ok (.istore 4, 2) := by decide +kernel
theorem dX12_nextPart_308 : decode cX12_nextPart 308 = .ok (.aload_n 0, 1) := by decide +kernel
theorem dX12_nextPart_309 : decode cX12_nextPart 309 = .ok (.iconst 0, 1) := by decide +kernel
theorem dX12_nextPart_310 : decode cX12_nextPart 310 = .ok (.putfield 110, 3) := by decide +kernel
theorem dX12_nextPart_313 : decode cX12_nextPart 313 = .ok (.goto 50, 3) := by decide +kernel
theorem dX12_nextPart_265 : decode cX12_nextPart 265 = .ok (.iconst 1, 1) := by decide +kernel
theorem dX12_nextPart_266 : decode cX12_nextPart 266 = .ok (.istore_n 2, 1) := by decide +kernel
theorem dX12_nextPart_267 : decode cX12_nextPart 267 = .ok (.iload 4, 2) := by decide +kernel
theorem dX12_nextPart_269 : decode cX12_nextPart 269 = .ok (.iload_n 3, 1) := by decide +kernel
theorem dX12_nextPart_270 : decode cX12_nextPart 270 = .ok (.iload 5, 2) := by decide +kernel
theorem dX12_nextPart_272 : decode cX12_nextPart 272 = .ok (.invokestatic 174, 3) := by decide +kernel
theorem dX12_nextPart_275 : decode cX12_nextPart 275 = .ok (.ifCond .eq 88, 3) := by decide +kernel
theorem dX12_nextPart_278 : decode cX12_nextPart 278 = .ok (.aload_n 0, 1) := by decide +kernel
theorem dX12_nextPart_279 : decode cX12_nextPart 279 = .ok (.iload 6, 2) := by decide +kernel
theorem dX12_nextPart_281 : decode cX12_nextPart 281 = .ok (.invokevirtual 178, 3) := by decide +kernel
theorem dX12_nextPart_284 : decode cX12_nextPart 284 = .ok (.goto 79, 3) := by decide +kernel
theorem dX12_nextPart_252 : decode cX12_nextPart 252 = .ok (.iconst 1, 1) := by decide +kernel
theorem dX12_nextPart_253 : decode cX12_nextPart 253 = .ok (.istore 5, 2) := by decide +kernel
theorem dX12_nextPart_255 : decode cX12_nextPart 255 = .ok (.goto 108, 3) := by decide +kernel
theorem dX12_nextPart_197 : decode cX12_nextPart 197 = .ok (.iload 6, 2) := by decide +kernel
theorem dX12_nextPart_199 : decode cX12_nextPart 199 = .ok (.bipush 40, 2) := by decide +kernel
theorem dX12_nextPart_201 : decode cX12_nextPart 201 = .ok (.if_icmp .ne 10, 3) := by decide +kernel
theorem dX12_nextPart_211 : decode cX12_nextPart 211 = .ok (.iload 6, 2) := by decide +kernel
theorem dX12_nextPart_213 : decode cX12_nextPart 213 = .ok (.bipush 41, 2) := by decide +kernel
theorem dX12_nextPart_215 : decode cX12_nextPart 215 = .ok (.if_icmp .ne 10, 3) := by decide +kernel
theorem dX12_nextPart_225 : decode cX12_nextPart 225 = .ok (.iload 5, 2) := by decide +kernel
theorem dX12_nextPart_218 : decode cX12_nextPart 218 = .ok (.iload 5, 2) := by decide +kernel
theorem dX12_nextPart_220 : decode cX12_nextPart 220 = .ok (.iconst 1, 1) := by decide +kernel
theorem dX12_nextPart_221 : decode cX12_nextPart 221 = .ok (.isub, 1) := by decide +kernel
theorem dX12_nextPart_222 : decode cX12_nextPart 222 = .ok (.goto 5, 3) := by decide +kernel
theorem dX12_nextPart_204 : decode cX12_nextPart 204 = .ok (.iload 5, 2) := by decide +kernel
theorem dX12_nextPart_206 : decode cX12_nextPart 206 = .ok (.iconst 1, 1) := by decide +kernel
theorem dX12_nextPart_207 : decode cX12_nextPart 207 = .ok (.iadd, 1) := by decide +kernel
theorem dX12_nextPart_208 : decode cX12_nextPart 208 = .ok (.goto 19, 3) := by decide +kernel
theorem dX12_nextPart_117 : decode cX12_nextPart 117 = .ok (.iload 6, 2) := by decide +kernel
theorem dX12_nextPart_119 : decode cX12_nextPart 119 = .ok (.bipush 34, 2) := by decide +kernel
theorem dX12_nextPart_121 : decode cX12_nextPart 121 = .ok (.if_icmp .ne 7, 3) := by decide +kernel
theorem dX12_nextPart_128 : decode cX12_nextPart 128 = .ok (.iconst 0, 1) := by decide +kernel
theorem dX12_nextPart_124 : decode cX12_nextPart 124 = .ok (.iconst 1, 1) := by decide +kernel
theorem dX12_nextPart_125 : decode cX12_nextPart 125 = .ok (.goto 4, 3) := by decide +kernel
theorem dX12_nextPart_96 : decode cX12_nextPart 96 = .ok (.iload_n 1, 1) := by decide +kernel
theorem dX12_nextPart_97 : decode cX12_nextPart 97 = .ok (.iconst 1, 1) := by decide +kernel
theorem dX12_nextPart_98 : decode cX12_nextPart 98 = .ok (.iadd, 1) := by decide +kernel
theorem dX12_nextPart_99 : decode cX12_nextPart 99 = .ok (.aload_n 0, 1) := by decide +kernel
theorem dX12_nextPart_100 : decode cX12_nextPart 100 = .ok (.getfield 168, 3) := by decide +kernel
theorem dX12_nextPart_103 : decode cX12_nextPart 103 = .ok (.if_icmp .ge 7, 3) := by decide +kernel
theorem dX12_nextPart_110 : decode cX12_nextPart 110 = .ok (.iconst 0, 1) := by decide +kernel
theorem dX12_nextPart_106 : decode cX12_nextPart 106 = .ok (.iconst 1, 1) := by decide +kernel
theorem dX12_nextPart_107 : decode cX12_nextPart 107 = .ok (.goto 4, 3) := by decide +kernel
theorem dX12_nextPart_70 : decode cX12_nextPart 70 = .ok (.istore 7, 2) := by decide +kernel
theorem dX12_nextPart_72 : decode cX12_nextPart 72 = .ok (.iload 7, 2) := by decide +kernel
theorem dX12_nextPart_74 : decode cX12_nextPart 74 = .ok (.ifCond .eq 6, 3) := by decide +kernel
theorem dX12_nextPart_80 : decode cX12_nextPart 80 = .ok (.iload 6, 2) := by decide +kernel
theorem dX12_nextPart_82 : decode cX12_nextPart 82 = .ok (.bipush 92, 2) := by decide +kernel
theorem dX12_nextPart_84 : decode cX12_nextPart 84 = .ok (.if_icmp .ne 26, 3) := by decide +kernel
theorem dX12_nextPart_87 : decode cX12_nextPart 87 = .ok (.iload_n 2, 1) := by decide +kernel
theorem dX12_nextPart_88 : decode cX12_nextPart 88 = .ok (.ifCond .ne 8, 3) := by decide +kernel
theorem dX12_nextPart_91 : decode cX12_nextPart 91 = .ok (.iload 5, 2) := by decide +kernel
theorem dX12_nextPart_93 : decode cX12_nextPart 93 = .ok (.ifCond .le 17, 3) := by decide +kernel
theorem dX12_nextPart_77 : decode cX12_nextPart 77 = .ok (.goto 293, 3) := by decide +kernel
theorem dX12_nextPart_29 : decode cX12_nextPart 29 = .ok (.iload_n 1, 1) := by decide +kernel
theorem dX12_nextPart_30 : decode cX12_nextPart 30 = .ok (.aload_n 0, 1) := by decide +kernel
theorem dX12_nextPart_31 : decode cX12_nextPart 31 = .ok (.getfield 168, 3) := by decide +kernel
theorem dX12_nextPart_34 : decode cX12_nextPart 34 = .ok (.if_icmp .ge 336, 3) := by decide +kernel
theorem dX12_nextPart_37 : decode cX12_nextPart 37 = .ok (.aload_n 0, 1) := by decide +kernel
theorem dX12_nextPart_38 : decode cX12_nextPart 38 = .ok (.getfield 171, 3) := by decide +kernel
theorem dX12_nextPart_41 : decode cX12_nextPart 41 = .ok (.iload_n 1, 1) := by decide +kernel
theorem dX12_nextPart_42 : decode cX12_nextPart 42 = .ok (.iaload, 1) := by decide +kernel
theorem dX12_nextPart_43 : decode cX12_nextPart 43 = .ok (.istore 6, 2) := by decide +kernel
theorem dX12_nextPart_45 : decode cX12_nextPart 45 = .ok (.iload 6, 2) := by decide +kernel
theorem dX12_nextPart_47 : decode cX12_nextPart 47 = .ok (.bipush 44, 2) := by decide +kernel
theorem dX12_nextPart_49 : decode cX12_nextPart 49 = .ok (.if_icmp .ne 20, 3) := by decide +kernel
theorem dX12_nextPart_69 : decode cX12_nextPart 69 = .ok (.iconst 0, 1) := by decide +kernel
theorem dX12_nextPart_52 : decode cX12_nextPart 52 = .ok (.iload_n 2, 1) := by decide +kernel
theorem dX12_nextPart_53 : decode cX12_nextPart 53 = .ok (.ifCond .ne 16, 3) := by decide +kernel
theorem dX12_nextPart_56 : decode cX12_nextPart 56 = .ok (.iload_n 3, 1) := by decide +kernel
theorem dX12_nextPart_57 : decode cX12_nextPart 57 = .ok (.ifCond .ne 12, 3) := by decide +kernel
theorem dX12_nextPart_60 : decode cX12_nextPart 60 = .ok (.iload 5, 2) := by decide +kernel
theorem dX12_nextPart_62 : decode cX12_nextPart 62 = .ok (.ifCond .ne 7, 3) := by decide +kernel
theorem dX12_nextPart_65 : decode cX12_nextPart 65 = .ok (.iconst 1, 1) := by decide +kernel
theorem dX12_nextPart_66 : decode cX12_nextPart 66 = .ok (.goto 4, 3) := by decide +kernel
theorem dX12_nextPart_0 : decode cX12_nextPart 0 = .ok (.aload_n 0, 1) := by decide +kernel
theorem dX12_nextPart_1 : decode cX12_nextPart 1 = .ok (.getfield 165, 3) := by decide +kernel
theorem dX12_nextPart_4 : decode cX12_nextPart 4 = .ok (.ifCond .ne 5, 3) := by decide +kernel
theorem dX12_nextPart_9 : decode cX12_nextPart 9 = .ok (.aload_n 0, 1) := by decide +kernel
theorem dX12_nextPart_10 : decode cX12_nextPart 10 = .ok (.getfield 162, 3) := by decide +kernel
theorem dX12_nextPart_13 : decode cX12_nextPart 13 = .ok (.istore_n 1, 1) := by decide +kernel
theorem dX12_nextPart_14 : decode cX12_nextPart 14 = .ok (.iconst 0, 1) := by decide +kernel
theorem dX12_nextPart_15 : decode cX12_nextPart 15 = .ok (.istore_n 2, 1) := by decide +kernel
theorem dX12_nextPart_16 : decode cX12_nextPart 16 = .ok (.iconst 0, 1) := by decide +kernel
theorem dX12_nextPart_17 : decode cX12_nextPart 17 = .ok (.istore_n 3, 1) := by decide +kernel
theorem dX12_nextPart_18 : decode cX12_nextPart 18 = .ok (.iconst 0, 1) := by decide +kernel
theorem dX12_nextPart_19 : decode cX12_nextPart 19 = .ok (.istore 4, 2) := by decide +kernel
theorem dX12_nextPart_21 : decode cX12_nextPart 21 = .ok (.iconst 0, 1) := by decide +kernel
theorem dX12_nextPart_22 : decode cX12_nextPart 22 = .ok (.istore 5, 2) := by decide +kernel
theorem dX12_nextPart_24 : decode cX12_nextPart 24 = .ok (.aload_n 0, 1) := by decide +kernel
theorem dX12_nextPart_25 : decode cX12_nextPart 25 = .ok (.iconst 0, 1) := by decide +kernel
theorem dX12_nextPart_26 : decode cX12_nextPart 26 = .ok (.putfield 110, 3) := by decide +kernel
theorem dX12_nextPart_7 : decode cX12_nextPart 7 = .ok (.iconst 0, 1) := by decide +kernel
theorem dX12_nextPart_8 : decode cX12_nextPart 8 = .ok (.ireturn, 1) := by decide +kernel
def fb_X12_nextPart_384  (x1 : Int32) (b3 : Bool) (bs0 : Bool) (s : uS) : Option (uS × Bool) := if b3 = true then (some (wI (wI (wI s 1079 25 (bI bs0)) 1079 24 (x1 + 1)) 1079 21 0, true)) else (some (wI (wI (wI s 1079 25 (bI bs0)) 1079 24 (x1 + 1)) 1079 21 ((wI (wI s 1079 25 (bI bs0)) 1079 24 (x1 + 1)).I 1079 21), true))
set_option maxRecDepth 100000 in
set_option maxHeartbeats 4000000 in
theorem xb_X12_nextPart_384 {l : Launch} {D : va_G} {A : Nat → ClassId} {B : Nat} {Z : State → Heap → Prop} {vF : Value} (uk : uK B Z vF)   {x1 : Int32} {b3 : Bool} {bs0 : Bool} {s : uS} {r : (uS × Bool)}  (h : fb_X12_nextPart_384  x1 b3 bs0 s = some r) : GU l D A B Z mX12_nextPart 1 (r.1, some (.int (bI r.2))) s 384 [(0, .ref (B + 1079)), (1, .int x1), (3, .int (bI b3))] [.int (bI bs0), .ref (B + 1079)] := by
  unfold fb_X12_nextPart_384 at h
  refine uu_puti (ft := .boolean) (ci := 12) (N := 153) fX12_165 ptX12 (Or.inl rfl) (by decide) so_1079.is (by decide) (by decide) (by decide +kernel) (bI_z _) (bI_f _) dX12_nextPart_384 ?_
  refine uu_aload_n dX12_nextPart_387 rfl (List.mem_of_getElem? (i := 0) rfl) ?_
  refine uu_iload_n dX12_nextPart_388 rfl (List.mem_of_getElem? (i := 1) rfl) ?_
  refine uu_iconst (v := 1) dX12_nextPart_389 (by decide) ?_
  refine uu_iadd dX12_nextPart_390 ?_
  refine uu_puti (ft := .int) (ci := 12) (N := 153) fX12_162 ptX12 (Or.inl rfl) (by decide) so_1079.is (by decide) (by decide) (by decide +kernel) rfl rfl dX12_nextPart_391 ?_
  refine uu_aload_n dX12_nextPart_394 rfl (List.mem_of_getElem? (i := 0) rfl) ?_
  refine uu_iload_n dX12_nextPart_395 rfl (List.mem_of_getElem? (i := 2) rfl) ?_
  refine uu_ifb_eq (tgt := 403) dX12_nextPart_396 (by decide) (fun c1 => ?_) (fun c1 => ?_)
  · replace h := uu_neg c1 h
    refine uu_aload_n dX12_nextPart_403 rfl (List.mem_of_getElem? (i := 0) rfl) ?_
    refine uu_geti (ci := 12) (N := 153) fX12_110 (by decide) so_1079.is (by decide) (by decide) dX12_nextPart_404 ?_
    refine uu_puti (ft := .int) (ci := 12) (N := 153) fX12_110 ptX12 (Or.inl rfl) (by decide) so_1079.is (by decide) (by decide) (by decide +kernel) rfl rfl dX12_nextPart_407 ?_
    refine uu_iconst (v := 1) dX12_nextPart_410 (by decide) ?_
    have hr := Option.some.inj h
    subst hr
    exact uu_zret (x := bI true) rfl (bI_z _) dX12_nextPart_411
  · replace h := uu_pos c1 h
    refine uu_iconst (v := 0) dX12_nextPart_399 (by decide) ?_
    refine uu_goto (tgt := 407) dX12_nextPart_400 (by decide) ?_
    refine uu_puti (ft := .int) (ci := 12) (N := 153) fX12_110 ptX12 (Or.inl rfl) (by decide) so_1079.is (by decide) (by decide) (by decide +kernel) rfl rfl dX12_nextPart_407 ?_
    refine uu_iconst (v := 1) dX12_nextPart_410 (by decide) ?_
    have hr := Option.some.inj h
    subst hr
    exact uu_zret (x := bI true) rfl (bI_z _) dX12_nextPart_411
def fb_X12_nextPart_370  (x1 : Int32) (b3 : Bool) (s : uS) : Option (uS × Bool) := if (s.I 1079 27) ≤ x1 then (fb_X12_nextPart_384 x1 b3 false s) else (fb_X12_nextPart_384 x1 b3 true s)
set_option maxRecDepth 100000 in
set_option maxHeartbeats 4000000 in
theorem xb_X12_nextPart_370 {l : Launch} {D : va_G} {A : Nat → ClassId} {B : Nat} {Z : State → Heap → Prop} {vF : Value} (uk : uK B Z vF)   {x1 : Int32} {b3 : Bool} {s : uS} {r : (uS × Bool)}  (h : fb_X12_nextPart_370  x1 b3 s = some r) : GU l D A B Z mX12_nextPart 1 (r.1, some (.int (bI r.2))) s 370 [(0, .ref (B + 1079)), (1, .int x1), (3, .int (bI b3))] [] := by
  unfold fb_X12_nextPart_370 at h
  refine uu_aload_n dX12_nextPart_370 rfl (List.mem_of_getElem? (i := 0) rfl) ?_
  refine uu_iload_n dX12_nextPart_371 rfl (List.mem_of_getElem? (i := 1) rfl) ?_
  refine uu_aload_n dX12_nextPart_372 rfl (List.mem_of_getElem? (i := 0) rfl) ?_
  refine uu_geti (ci := 12) (N := 153) fX12_168 (by decide) so_1079.is (by decide) (by decide) dX12_nextPart_373 ?_
  refine uu_icmp_ge (tgt := 383) dX12_nextPart_376 (by decide) (fun c1 => ?_) (fun c1 => ?_)
  · replace h := uu_pos c1 h
    refine uu_iconst (v := 0) dX12_nextPart_383 (by decide) ?_
    exact xb_X12_nextPart_384 uk  h
  · replace h := uu_neg c1 h
    refine uu_iconst (v := 1) dX12_nextPart_379 (by decide) ?_
    refine uu_goto (tgt := 384) dX12_nextPart_380 (by decide) ?_
    exact xb_X12_nextPart_384 uk  h
def fb_X12_nextPart_188 (K29 : Int32 → Bool → Bool → Bool → Int32 → uS → Option (uS × Bool)) (x1 : Int32) (b3 : Bool) (b4 : Bool) (x5 : Int32) (bs0 : Bool) (s : uS) : Option (uS × Bool) := K29 (x1 + 1) bs0 b3 b4 x5 s
set_option maxRecDepth 100000 in
set_option maxHeartbeats 4000000 in
theorem xb_X12_nextPart_188 {l : Launch} {D : va_G} {A : Nat → ClassId} {B : Nat} {Z : State → Heap → Prop} {vF : Value} (uk : uK B Z vF) {K29 : Int32 → Bool → Bool → Bool → Int32 → uS → Option (uS × Bool)} (hK29 : ∀ (x1 : Int32) (b2 : Bool) (b3 : Bool) (b4 : Bool) (x5 : Int32)  (s : uS) (r : (uS × Bool)), K29 x1 b2 b3 b4 x5 s = some r → GU l D A B Z mX12_nextPart 1 (r.1, some (.int (bI r.2))) s 29 [(0, .ref (B + 1079)), (1, .int x1), (2, .int (bI b2)), (3, .int (bI b3)), (4, .int (bI b4)), (5, .int x5)] []) {x1 : Int32} {b3 : Bool} {b4 : Bool} {x5 : Int32} {bs0 : Bool} {s : uS} {r : (uS × Bool)}  (h : fb_X12_nextPart_188 K29 x1 b3 b4 x5 bs0 s = some r) : GU l D A B Z mX12_nextPart 1 (r.1, some (.int (bI r.2))) s 188 [(0, .ref (B + 1079)), (1, .int x1), (3, .int (bI b3)), (4, .int (bI b4)), (5, .int x5)] [.int (bI bs0)] := by
  unfold fb_X12_nextPart_188 at h
  refine uu_istore_n dX12_nextPart_188 rfl (by decide) rfl ?_
  refine uu_goto (tgt := 363) dX12_nextPart_189 (by decide) ?_
  refine uu_iload_n dX12_nextPart_363 rfl (List.mem_of_getElem? (i := 2) rfl) ?_
  refine uu_iconst (v := 1) dX12_nextPart_364 (by decide) ?_
  refine uu_iadd dX12_nextPart_365 ?_
  refine uu_istore_n dX12_nextPart_366 rfl (by decide) rfl ?_
  refine uu_goto (tgt := 29) dX12_nextPart_367 (by decide) ?_
  refine uu_lv [2, 0, 1, 3, 4, 5] (lv' := [(0, .ref (B + 1079)), (1, .int (x1 + 1)), (2, .int (bI bs0)), (3, .int (bI b3)), (4, .int (bI b4)), (5, .int x5)]) rfl ?_
  exact hK29 (x1 + 1) bs0 b3 b4 x5 _ _ h
def fb_X12_nextPart_178 (K29 : Int32 → Bool → Bool → Bool → Int32 → uS → Option (uS × Bool)) (x1 : Int32) (b3 : Bool) (b4 : Bool) (x5 : Int32) (b9 : Bool) (s : uS) : Option (uS × Bool) := if b9 = true then (fb_X12_nextPart_188 K29 x1 b3 b4 x5 false s) else (fb_X12_nextPart_188 K29 x1 b3 b4 x5 true s)
set_option maxRecDepth 100000 in
set_option maxHeartbeats 4000000 in
theorem xb_X12_nextPart_178 {l : Launch} {D : va_G} {A : Nat → ClassId} {B : Nat} {Z : State → Heap → Prop} {vF : Value} (uk : uK B Z vF) {K29 : Int32 → Bool → Bool → Bool → Int32 → uS → Option (uS × Bool)} (hK29 : ∀ (x1 : Int32) (b2 : Bool) (b3 : Bool) (b4 : Bool) (x5 : Int32)  (s : uS) (r : (uS × Bool)), K29 x1 b2 b3 b4 x5 s = some r → GU l D A B Z mX12_nextPart 1 (r.1, some (.int (bI r.2))) s 29 [(0, .ref (B + 1079)), (1, .int x1), (2, .int (bI b2)), (3, .int (bI b3)), (4, .int (bI b4)), (5, .int x5)] []) {x1 : Int32} {b3 : Bool} {b4 : Bool} {x5 : Int32} {b9 : Bool} {s : uS} {r : (uS × Bool)}  (h : fb_X12_nextPart_178 K29 x1 b3 b4 x5 b9 s = some r) : GU l D A B Z mX12_nextPart 1 (r.1, some (.int (bI r.2))) s 178 [(0, .ref (B + 1079)), (1, .int x1), (3, .int (bI b3)), (4, .int (bI b4)), (5, .int x5), (9, .int (bI b9))] [] := by
  unfold fb_X12_nextPart_178 at h
  refine uu_iload dX12_nextPart_178 (List.mem_of_getElem? (i := 5) rfl) ?_
  refine uu_ifb_ne (tgt := 187) dX12_nextPart_180 (by decide) (fun c1 => ?_) (fun c1 => ?_)
  · replace h := uu_pos c1 h
    refine uu_iconst (v := 0) dX12_nextPart_187 (by decide) ?_
    refine uu_lv [0, 1, 2, 3, 4] (lv' := [(0, .ref (B + 1079)), (1, .int x1), (3, .int (bI b3)), (4, .int (bI b4)), (5, .int x5)]) rfl ?_
    exact xb_X12_nextPart_188 uk hK29 h
  · replace h := uu_neg c1 h
    refine uu_iconst (v := 1) dX12_nextPart_183 (by decide) ?_
    refine uu_goto (tgt := 188) dX12_nextPart_184 (by decide) ?_
    refine uu_lv [0, 1, 2, 3, 4] (lv' := [(0, .ref (B + 1079)), (1, .int x1), (3, .int (bI b3)), (4, .int (bI b4)), (5, .int x5)]) rfl ?_
    exact xb_X12_nextPart_188 uk hK29 h
def fb_X12_nextPart_148 (K29 : Int32 → Bool → Bool → Bool → Int32 → uS → Option (uS × Bool)) (x1 : Int32) (b3 : Bool) (b4 : Bool) (x5 : Int32) (b8 : Bool) (b9 : Bool) (s : uS) : Option (uS × Bool) := if b8 = true then ((fn_X12_keeps b4 b3 x5 s).bind fun v2 => if v2 = true then ((iget 20 s 1095 (x1 + 1)).bind fun v5 => (fn_X12_add v5 s).bind fun s7 => fb_X12_nextPart_178 K29 (x1 + 1) b3 b4 x5 b9 s7) else (fb_X12_nextPart_178 K29 (x1 + 1) b3 b4 x5 b9 s)) else (fb_X12_nextPart_178 K29 x1 b3 b4 x5 b9 s)
set_option maxRecDepth 100000 in
set_option maxHeartbeats 4000000 in
theorem xb_X12_nextPart_148 {l : Launch} {D : va_G} {A : Nat → ClassId} {B : Nat} {Z : State → Heap → Prop} {vF : Value} (uk : uK B Z vF) {K29 : Int32 → Bool → Bool → Bool → Int32 → uS → Option (uS × Bool)} (hK29 : ∀ (x1 : Int32) (b2 : Bool) (b3 : Bool) (b4 : Bool) (x5 : Int32)  (s : uS) (r : (uS × Bool)), K29 x1 b2 b3 b4 x5 s = some r → GU l D A B Z mX12_nextPart 1 (r.1, some (.int (bI r.2))) s 29 [(0, .ref (B + 1079)), (1, .int x1), (2, .int (bI b2)), (3, .int (bI b3)), (4, .int (bI b4)), (5, .int x5)] []) {x1 : Int32} {b3 : Bool} {b4 : Bool} {x5 : Int32} {b8 : Bool} {b9 : Bool} {s : uS} {r : (uS × Bool)}  (h : fb_X12_nextPart_148 K29 x1 b3 b4 x5 b8 b9 s = some r) : GU l D A B Z mX12_nextPart 1 (r.1, some (.int (bI r.2))) s 148 [(0, .ref (B + 1079)), (1, .int x1), (3, .int (bI b3)), (4, .int (bI b4)), (5, .int x5), (8, .int (bI b8)), (9, .int (bI b9))] [] := by
  unfold fb_X12_nextPart_148 at h
  refine uu_iload dX12_nextPart_148 (List.mem_of_getElem? (i := 5) rfl) ?_
  refine uu_ifb_eq (tgt := 178) dX12_nextPart_150 (by decide) (fun c1 => ?_) (fun c1 => ?_)
  · replace h := uu_neg c1 h
    refine uu_lv [0, 1, 2, 3, 4, 6] (lv' := [(0, .ref (B + 1079)), (1, .int x1), (3, .int (bI b3)), (4, .int (bI b4)), (5, .int x5), (9, .int (bI b9))]) rfl ?_
    exact xb_X12_nextPart_178 uk hK29 h
  · replace h := uu_pos c1 h
    refine uu_iload_n dX12_nextPart_153 rfl (List.mem_of_getElem? (i := 1) rfl) ?_
    refine uu_iconst (v := 1) dX12_nextPart_154 (by decide) ?_
    refine uu_iadd dX12_nextPart_155 ?_
    refine uu_istore_n dX12_nextPart_156 rfl (by decide) rfl ?_
    refine uu_iload dX12_nextPart_157 (List.mem_of_getElem? (i := 3) rfl) ?_
    refine uu_iload_n dX12_nextPart_159 rfl (List.mem_of_getElem? (i := 2) rfl) ?_
    refine uu_iload dX12_nextPart_160 (List.mem_of_getElem? (i := 4) rfl) ?_
    obtain ⟨v2, e3, h⟩ := uu_ob h
    refine uu_cs (d1 := 0) (As := [.int (bI b4), .int (bI b3), .int x5]) (st := []) (st' := [.int (bI v2)]) (xc_X12_keeps uk  e3) kX12_keeps lX12_174 sX12_keeps (by decide) (Nat.le_of_ble_eq_true rfl) dX12_nextPart_162 rfl ?_
    refine uu_ifb_eq (tgt := 178) dX12_nextPart_165 (by decide) (fun c4 => ?_) (fun c4 => ?_)
    · replace h := uu_neg c4 h
      refine uu_lv [1, 0, 2, 3, 4, 6] (lv' := [(0, .ref (B + 1079)), (1, .int (x1 + 1)), (3, .int (bI b3)), (4, .int (bI b4)), (5, .int x5), (9, .int (bI b9))]) rfl ?_
      exact xb_X12_nextPart_178 uk hK29 h
    · replace h := uu_pos c4 h
      refine uu_aload_n dX12_nextPart_168 rfl (List.mem_of_getElem? (i := 1) rfl) ?_
      refine uu_aload_n dX12_nextPart_169 rfl (List.mem_of_getElem? (i := 1) rfl) ?_
      refine uu_geta (ci := 12) (N := 153) fX12_171 (by decide) so_1079.is (by decide) (c := 1095) (by decide) dX12_nextPart_170 ?_
      refine uu_iload_n dX12_nextPart_173 rfl (List.mem_of_getElem? (i := 0) rfl) ?_
      obtain ⟨v5, e6, h⟩ := uu_ob h
      refine uu_iald e6 dX12_nextPart_174 ?_
      obtain ⟨s7, e8, h⟩ := uu_ob h
      refine uu_cv (d1 := 0) (k := 1079) (ci := 12) (T := TX12) (N := 153) (As := [.int v5]) (st := []) (st' := []) (xc_X12_add uk  e8) so_1079.is (by decide) rfl kX12_add lX12_178 sX12_add (by decide) (Nat.le_of_ble_eq_true rfl) dX12_nextPart_175 rfl ?_
      refine uu_lv [1, 0, 2, 3, 4, 6] (lv' := [(0, .ref (B + 1079)), (1, .int (x1 + 1)), (3, .int (bI b3)), (4, .int (bI b4)), (5, .int x5), (9, .int (bI b9))]) rfl ?_
      exact xb_X12_nextPart_178 uk hK29 h
def fb_X12_nextPart_129 (K29 : Int32 → Bool → Bool → Bool → Int32 → uS → Option (uS × Bool)) (x1 : Int32) (b3 : Bool) (b4 : Bool) (x5 : Int32) (x6 : Int32) (b8 : Bool) (bs0 : Bool) (s : uS) : Option (uS × Bool) := (fn_X12_keeps b4 b3 x5 s).bind fun v1 => if v1 = true then ((fn_X12_add x6 s).bind fun s4 => fb_X12_nextPart_148 K29 x1 b3 b4 x5 b8 bs0 s4) else (fb_X12_nextPart_148 K29 x1 b3 b4 x5 b8 bs0 s)
set_option maxRecDepth 100000 in
set_option maxHeartbeats 4000000 in
theorem xb_X12_nextPart_129 {l : Launch} {D : va_G} {A : Nat → ClassId} {B : Nat} {Z : State → Heap → Prop} {vF : Value} (uk : uK B Z vF) {K29 : Int32 → Bool → Bool → Bool → Int32 → uS → Option (uS × Bool)} (hK29 : ∀ (x1 : Int32) (b2 : Bool) (b3 : Bool) (b4 : Bool) (x5 : Int32)  (s : uS) (r : (uS × Bool)), K29 x1 b2 b3 b4 x5 s = some r → GU l D A B Z mX12_nextPart 1 (r.1, some (.int (bI r.2))) s 29 [(0, .ref (B + 1079)), (1, .int x1), (2, .int (bI b2)), (3, .int (bI b3)), (4, .int (bI b4)), (5, .int x5)] []) {x1 : Int32} {b3 : Bool} {b4 : Bool} {x5 : Int32} {x6 : Int32} {b8 : Bool} {bs0 : Bool} {s : uS} {r : (uS × Bool)}  (h : fb_X12_nextPart_129 K29 x1 b3 b4 x5 x6 b8 bs0 s = some r) : GU l D A B Z mX12_nextPart 1 (r.1, some (.int (bI r.2))) s 129 [(0, .ref (B + 1079)), (1, .int x1), (3, .int (bI b3)), (4, .int (bI b4)), (5, .int x5), (6, .int x6), (8, .int (bI b8))] [.int (bI bs0)] := by
  unfold fb_X12_nextPart_129 at h
  refine uu_istore dX12_nextPart_129 (by decide) rfl ?_
  refine uu_iload dX12_nextPart_131 (List.mem_of_getElem? (i := 4) rfl) ?_
  refine uu_iload_n dX12_nextPart_133 rfl (List.mem_of_getElem? (i := 3) rfl) ?_
  refine uu_iload dX12_nextPart_134 (List.mem_of_getElem? (i := 5) rfl) ?_
  obtain ⟨v1, e2, h⟩ := uu_ob h
  refine uu_cs (d1 := 0) (As := [.int (bI b4), .int (bI b3), .int x5]) (st := []) (st' := [.int (bI v1)]) (xc_X12_keeps uk  e2) kX12_keeps lX12_174 sX12_keeps (by decide) (Nat.le_of_ble_eq_true rfl) dX12_nextPart_136 rfl ?_
  refine uu_ifb_eq (tgt := 148) dX12_nextPart_139 (by decide) (fun c3 => ?_) (fun c3 => ?_)
  · replace h := uu_neg c3 h
    refine uu_lv [1, 2, 3, 4, 5, 7, 0] (lv' := [(0, .ref (B + 1079)), (1, .int x1), (3, .int (bI b3)), (4, .int (bI b4)), (5, .int x5), (8, .int (bI b8)), (9, .int (bI bs0))]) rfl ?_
    exact xb_X12_nextPart_148 uk hK29 h
  · replace h := uu_pos c3 h
    refine uu_aload_n dX12_nextPart_142 rfl (List.mem_of_getElem? (i := 1) rfl) ?_
    refine uu_iload dX12_nextPart_143 (List.mem_of_getElem? (i := 6) rfl) ?_
    obtain ⟨s4, e5, h⟩ := uu_ob h
    refine uu_cv (d1 := 0) (k := 1079) (ci := 12) (T := TX12) (N := 153) (As := [.int x6]) (st := []) (st' := []) (xc_X12_add uk  e5) so_1079.is (by decide) rfl kX12_add lX12_178 sX12_add (by decide) (Nat.le_of_ble_eq_true rfl) dX12_nextPart_145 rfl ?_
    refine uu_lv [1, 2, 3, 4, 5, 7, 0] (lv' := [(0, .ref (B + 1079)), (1, .int x1), (3, .int (bI b3)), (4, .int (bI b4)), (5, .int x5), (8, .int (bI b8)), (9, .int (bI bs0))]) rfl ?_
    exact xb_X12_nextPart_148 uk hK29 h
def fb_X12_nextPart_332 (K29 : Int32 → Bool → Bool → Bool → Int32 → uS → Option (uS × Bool)) (x1 : Int32) (b2 : Bool) (b3 : Bool) (b4 : Bool) (x5 : Int32) (x6 : Int32) (s : uS) : Option (uS × Bool) := if x6 = 32 then (K29 (x1 + 1) b2 b3 b4 x5 s) else (if x6 = 9 then (K29 (x1 + 1) b2 b3 b4 x5 s) else ((fn_X12_keeps b4 b3 x5 s).bind fun v3 => if v3 = true then ((fn_X12_add x6 s).bind fun s6 => K29 (x1 + 1) b2 b3 b4 x5 s6) else (K29 (x1 + 1) b2 b3 b4 x5 s)))
set_option maxRecDepth 100000 in
set_option maxHeartbeats 4000000 in
theorem xb_X12_nextPart_332 {l : Launch} {D : va_G} {A : Nat → ClassId} {B : Nat} {Z : State → Heap → Prop} {vF : Value} (uk : uK B Z vF) {K29 : Int32 → Bool → Bool → Bool → Int32 → uS → Option (uS × Bool)} (hK29 : ∀ (x1 : Int32) (b2 : Bool) (b3 : Bool) (b4 : Bool) (x5 : Int32)  (s : uS) (r : (uS × Bool)), K29 x1 b2 b3 b4 x5 s = some r → GU l D A B Z mX12_nextPart 1 (r.1, some (.int (bI r.2))) s 29 [(0, .ref (B + 1079)), (1, .int x1), (2, .int (bI b2)), (3, .int (bI b3)), (4, .int (bI b4)), (5, .int x5)] []) {x1 : Int32} {b2 : Bool} {b3 : Bool} {b4 : Bool} {x5 : Int32} {x6 : Int32} {s : uS} {r : (uS × Bool)}  (h : fb_X12_nextPart_332 K29 x1 b2 b3 b4 x5 x6 s = some r) : GU l D A B Z mX12_nextPart 1 (r.1, some (.int (bI r.2))) s 332 [(0, .ref (B + 1079)), (1, .int x1), (2, .int (bI b2)), (3, .int (bI b3)), (4, .int (bI b4)), (5, .int x5), (6, .int x6)] [] := by
  unfold fb_X12_nextPart_332 at h
  refine uu_iload dX12_nextPart_332 (List.mem_of_getElem? (i := 6) rfl) ?_
  refine uu_bipush (v := 32) dX12_nextPart_334 (by decide) ?_
  refine uu_icmp_eq (tgt := 363) dX12_nextPart_336 (by decide) (fun c1 => ?_) (fun c1 => ?_)
  · replace h := uu_pos c1 h
    refine uu_iload_n dX12_nextPart_363 rfl (List.mem_of_getElem? (i := 1) rfl) ?_
    refine uu_iconst (v := 1) dX12_nextPart_364 (by decide) ?_
    refine uu_iadd dX12_nextPart_365 ?_
    refine uu_istore_n dX12_nextPart_366 rfl (by decide) rfl ?_
    refine uu_goto (tgt := 29) dX12_nextPart_367 (by decide) ?_
    refine uu_lv [1, 0, 2, 3, 4, 5] (lv' := [(0, .ref (B + 1079)), (1, .int (x1 + 1)), (2, .int (bI b2)), (3, .int (bI b3)), (4, .int (bI b4)), (5, .int x5)]) rfl ?_
    exact hK29 (x1 + 1) b2 b3 b4 x5 _ _ h
  · replace h := uu_neg c1 h
    refine uu_iload dX12_nextPart_339 (List.mem_of_getElem? (i := 6) rfl) ?_
    refine uu_bipush (v := 9) dX12_nextPart_341 (by decide) ?_
    refine uu_icmp_eq (tgt := 363) dX12_nextPart_343 (by decide) (fun c2 => ?_) (fun c2 => ?_)
    · replace h := uu_pos c2 h
      refine uu_iload_n dX12_nextPart_363 rfl (List.mem_of_getElem? (i := 1) rfl) ?_
      refine uu_iconst (v := 1) dX12_nextPart_364 (by decide) ?_
      refine uu_iadd dX12_nextPart_365 ?_
      refine uu_istore_n dX12_nextPart_366 rfl (by decide) rfl ?_
      refine uu_goto (tgt := 29) dX12_nextPart_367 (by decide) ?_
      refine uu_lv [1, 0, 2, 3, 4, 5] (lv' := [(0, .ref (B + 1079)), (1, .int (x1 + 1)), (2, .int (bI b2)), (3, .int (bI b3)), (4, .int (bI b4)), (5, .int x5)]) rfl ?_
      exact hK29 (x1 + 1) b2 b3 b4 x5 _ _ h
    · replace h := uu_neg c2 h
      refine uu_iload dX12_nextPart_346 (List.mem_of_getElem? (i := 4) rfl) ?_
      refine uu_iload_n dX12_nextPart_348 rfl (List.mem_of_getElem? (i := 3) rfl) ?_
      refine uu_iload dX12_nextPart_349 (List.mem_of_getElem? (i := 5) rfl) ?_
      obtain ⟨v3, e4, h⟩ := uu_ob h
      refine uu_cs (d1 := 0) (As := [.int (bI b4), .int (bI b3), .int x5]) (st := []) (st' := [.int (bI v3)]) (xc_X12_keeps uk  e4) kX12_keeps lX12_174 sX12_keeps (by decide) (Nat.le_of_ble_eq_true rfl) dX12_nextPart_351 rfl ?_
      refine uu_ifb_eq (tgt := 363) dX12_nextPart_354 (by decide) (fun c5 => ?_) (fun c5 => ?_)
      · replace h := uu_neg c5 h
        refine uu_iload_n dX12_nextPart_363 rfl (List.mem_of_getElem? (i := 1) rfl) ?_
        refine uu_iconst (v := 1) dX12_nextPart_364 (by decide) ?_
        refine uu_iadd dX12_nextPart_365 ?_
        refine uu_istore_n dX12_nextPart_366 rfl (by decide) rfl ?_
        refine uu_goto (tgt := 29) dX12_nextPart_367 (by decide) ?_
        refine uu_lv [1, 0, 2, 3, 4, 5] (lv' := [(0, .ref (B + 1079)), (1, .int (x1 + 1)), (2, .int (bI b2)), (3, .int (bI b3)), (4, .int (bI b4)), (5, .int x5)]) rfl ?_
        exact hK29 (x1 + 1) b2 b3 b4 x5 _ _ h
      · replace h := uu_pos c5 h
        refine uu_aload_n dX12_nextPart_357 rfl (List.mem_of_getElem? (i := 0) rfl) ?_
        refine uu_iload dX12_nextPart_358 (List.mem_of_getElem? (i := 6) rfl) ?_
        obtain ⟨s6, e7, h⟩ := uu_ob h
        refine uu_cv (d1 := 0) (k := 1079) (ci := 12) (T := TX12) (N := 153) (As := [.int x6]) (st := []) (st' := []) (xc_X12_add uk  e7) so_1079.is (by decide) rfl kX12_add lX12_178 sX12_add (by decide) (Nat.le_of_ble_eq_true rfl) dX12_nextPart_360 rfl ?_
        refine uu_iload_n dX12_nextPart_363 rfl (List.mem_of_getElem? (i := 1) rfl) ?_
        refine uu_iconst (v := 1) dX12_nextPart_364 (by decide) ?_
        refine uu_iadd dX12_nextPart_365 ?_
        refine uu_istore_n dX12_nextPart_366 rfl (by decide) rfl ?_
        refine uu_goto (tgt := 29) dX12_nextPart_367 (by decide) ?_
        refine uu_lv [1, 0, 2, 3, 4, 5] (lv' := [(0, .ref (B + 1079)), (1, .int (x1 + 1)), (2, .int (bI b2)), (3, .int (bI b3)), (4, .int (bI b4)), (5, .int x5)]) rfl ?_
        exact hK29 (x1 + 1) b2 b3 b4 x5 _ _ h
def fb_X12_nextPart_316 (K29 : Int32 → Bool → Bool → Bool → Int32 → uS → Option (uS × Bool)) (x1 : Int32) (b2 : Bool) (b3 : Bool) (b4 : Bool) (x5 : Int32) (x6 : Int32) (s : uS) : Option (uS × Bool) := if x6 = 62 then (if b3 = true then (K29 (x1 + 1) b2 false b4 x5 s) else (fb_X12_nextPart_332 K29 x1 b2 b3 b4 x5 x6 s)) else (fb_X12_nextPart_332 K29 x1 b2 b3 b4 x5 x6 s)
set_option maxRecDepth 100000 in
set_option maxHeartbeats 4000000 in
theorem xb_X12_nextPart_316 {l : Launch} {D : va_G} {A : Nat → ClassId} {B : Nat} {Z : State → Heap → Prop} {vF : Value} (uk : uK B Z vF) {K29 : Int32 → Bool → Bool → Bool → Int32 → uS → Option (uS × Bool)} (hK29 : ∀ (x1 : Int32) (b2 : Bool) (b3 : Bool) (b4 : Bool) (x5 : Int32)  (s : uS) (r : (uS × Bool)), K29 x1 b2 b3 b4 x5 s = some r → GU l D A B Z mX12_nextPart 1 (r.1, some (.int (bI r.2))) s 29 [(0, .ref (B + 1079)), (1, .int x1), (2, .int (bI b2)), (3, .int (bI b3)), (4, .int (bI b4)), (5, .int x5)] []) {x1 : Int32} {b2 : Bool} {b3 : Bool} {b4 : Bool} {x5 : Int32} {x6 : Int32} {s : uS} {r : (uS × Bool)}  (h : fb_X12_nextPart_316 K29 x1 b2 b3 b4 x5 x6 s = some r) : GU l D A B Z mX12_nextPart 1 (r.1, some (.int (bI r.2))) s 316 [(0, .ref (B + 1079)), (1, .int x1), (2, .int (bI b2)), (3, .int (bI b3)), (4, .int (bI b4)), (5, .int x5), (6, .int x6)] [] := by
  unfold fb_X12_nextPart_316 at h
  refine uu_iload dX12_nextPart_316 (List.mem_of_getElem? (i := 6) rfl) ?_
  refine uu_bipush (v := 62) dX12_nextPart_318 (by decide) ?_
  refine uu_icmp_ne (tgt := 332) dX12_nextPart_320 (by decide) (fun c1 => ?_) (fun c1 => ?_)
  · replace h := uu_neg c1 h
    exact xb_X12_nextPart_332 uk hK29 h
  · replace h := uu_pos c1 h
    refine uu_iload_n dX12_nextPart_323 rfl (List.mem_of_getElem? (i := 3) rfl) ?_
    refine uu_ifb_eq (tgt := 332) dX12_nextPart_324 (by decide) (fun c2 => ?_) (fun c2 => ?_)
    · replace h := uu_neg c2 h
      exact xb_X12_nextPart_332 uk hK29 h
    · replace h := uu_pos c2 h
      refine uu_iconst (v := 0) dX12_nextPart_327 (by decide) ?_
      refine uu_istore_n dX12_nextPart_328 rfl (by decide) rfl ?_
      refine uu_goto (tgt := 363) dX12_nextPart_329 (by decide) ?_
      refine uu_iload_n dX12_nextPart_363 rfl (List.mem_of_getElem? (i := 2) rfl) ?_
      refine uu_iconst (v := 1) dX12_nextPart_364 (by decide) ?_
      refine uu_iadd dX12_nextPart_365 ?_
      refine uu_istore_n dX12_nextPart_366 rfl (by decide) rfl ?_
      refine uu_goto (tgt := 29) dX12_nextPart_367 (by decide) ?_
      refine uu_lv [2, 0, 3, 1, 4, 5] (lv' := [(0, .ref (B + 1079)), (1, .int (x1 + 1)), (2, .int (bI b2)), (3, .int 0), (4, .int (bI b4)), (5, .int x5)]) rfl ?_
      exact hK29 (x1 + 1) b2 false b4 x5 _ _ h
def fb_X12_nextPart_241 (K29 : Int32 → Bool → Bool → Bool → Int32 → uS → Option (uS × Bool)) (b2 : Bool) (b3 : Bool) (b4 : Bool) (x5 : Int32) (xs0 : Int32) (s : uS) : Option (uS × Bool) := K29 (xs0 + 1) b2 b3 b4 x5 s
set_option maxRecDepth 100000 in
set_option maxHeartbeats 4000000 in
theorem xb_X12_nextPart_241 {l : Launch} {D : va_G} {A : Nat → ClassId} {B : Nat} {Z : State → Heap → Prop} {vF : Value} (uk : uK B Z vF) {K29 : Int32 → Bool → Bool → Bool → Int32 → uS → Option (uS × Bool)} (hK29 : ∀ (x1 : Int32) (b2 : Bool) (b3 : Bool) (b4 : Bool) (x5 : Int32)  (s : uS) (r : (uS × Bool)), K29 x1 b2 b3 b4 x5 s = some r → GU l D A B Z mX12_nextPart 1 (r.1, some (.int (bI r.2))) s 29 [(0, .ref (B + 1079)), (1, .int x1), (2, .int (bI b2)), (3, .int (bI b3)), (4, .int (bI b4)), (5, .int x5)] []) {b2 : Bool} {b3 : Bool} {b4 : Bool} {x5 : Int32} {xs0 : Int32} {s : uS} {r : (uS × Bool)}  (h : fb_X12_nextPart_241 K29 b2 b3 b4 x5 xs0 s = some r) : GU l D A B Z mX12_nextPart 1 (r.1, some (.int (bI r.2))) s 241 [(0, .ref (B + 1079)), (2, .int (bI b2)), (3, .int (bI b3)), (4, .int (bI b4)), (5, .int x5)] [.int xs0] := by
  unfold fb_X12_nextPart_241 at h
  refine uu_istore_n dX12_nextPart_241 rfl (by decide) rfl ?_
  refine uu_goto (tgt := 363) dX12_nextPart_242 (by decide) ?_
  refine uu_iload_n dX12_nextPart_363 rfl (List.mem_of_getElem? (i := 0) rfl) ?_
  refine uu_iconst (v := 1) dX12_nextPart_364 (by decide) ?_
  refine uu_iadd dX12_nextPart_365 ?_
  refine uu_istore_n dX12_nextPart_366 rfl (by decide) rfl ?_
  refine uu_goto (tgt := 29) dX12_nextPart_367 (by decide) ?_
  refine uu_lv [1, 0, 2, 3, 4, 5] (lv' := [(0, .ref (B + 1079)), (1, .int (xs0 + 1)), (2, .int (bI b2)), (3, .int (bI b3)), (4, .int (bI b4)), (5, .int x5)]) rfl ?_
  exact hK29 (xs0 + 1) b2 b3 b4 x5 _ _ h
def fb_X12_nextPart_227 (K29 : Int32 → Bool → Bool → Bool → Int32 → uS → Option (uS × Bool)) (x1 : Int32) (b2 : Bool) (b3 : Bool) (b4 : Bool) (b8 : Bool) (xs0 : Int32) (s : uS) : Option (uS × Bool) := if b8 = true then (fb_X12_nextPart_241 K29 b2 b3 b4 xs0 (x1 + 1) s) else (fb_X12_nextPart_241 K29 b2 b3 b4 xs0 x1 s)
set_option maxRecDepth 100000 in
set_option maxHeartbeats 4000000 in
theorem xb_X12_nextPart_227 {l : Launch} {D : va_G} {A : Nat → ClassId} {B : Nat} {Z : State → Heap → Prop} {vF : Value} (uk : uK B Z vF) {K29 : Int32 → Bool → Bool → Bool → Int32 → uS → Option (uS × Bool)} (hK29 : ∀ (x1 : Int32) (b2 : Bool) (b3 : Bool) (b4 : Bool) (x5 : Int32)  (s : uS) (r : (uS × Bool)), K29 x1 b2 b3 b4 x5 s = some r → GU l D A B Z mX12_nextPart 1 (r.1, some (.int (bI r.2))) s 29 [(0, .ref (B + 1079)), (1, .int x1), (2, .int (bI b2)), (3, .int (bI b3)), (4, .int (bI b4)), (5, .int x5)] []) {x1 : Int32} {b2 : Bool} {b3 : Bool} {b4 : Bool} {b8 : Bool} {xs0 : Int32} {s : uS} {r : (uS × Bool)}  (h : fb_X12_nextPart_227 K29 x1 b2 b3 b4 b8 xs0 s = some r) : GU l D A B Z mX12_nextPart 1 (r.1, some (.int (bI r.2))) s 227 [(0, .ref (B + 1079)), (1, .int x1), (2, .int (bI b2)), (3, .int (bI b3)), (4, .int (bI b4)), (8, .int (bI b8))] [.int xs0] := by
  unfold fb_X12_nextPart_227 at h
  refine uu_istore dX12_nextPart_227 (by decide) rfl ?_
  refine uu_iload dX12_nextPart_229 (List.mem_of_getElem? (i := 6) rfl) ?_
  refine uu_ifb_eq (tgt := 240) dX12_nextPart_231 (by decide) (fun c1 => ?_) (fun c1 => ?_)
  · replace h := uu_neg c1 h
    refine uu_iload_n dX12_nextPart_240 rfl (List.mem_of_getElem? (i := 2) rfl) ?_
    refine uu_lv [1, 3, 4, 5, 0] (lv' := [(0, .ref (B + 1079)), (2, .int (bI b2)), (3, .int (bI b3)), (4, .int (bI b4)), (5, .int xs0)]) rfl ?_
    exact xb_X12_nextPart_241 uk hK29 h
  · replace h := uu_pos c1 h
    refine uu_iload_n dX12_nextPart_234 rfl (List.mem_of_getElem? (i := 2) rfl) ?_
    refine uu_iconst (v := 1) dX12_nextPart_235 (by decide) ?_
    refine uu_iadd dX12_nextPart_236 ?_
    refine uu_goto (tgt := 241) dX12_nextPart_237 (by decide) ?_
    refine uu_lv [1, 3, 4, 5, 0] (lv' := [(0, .ref (B + 1079)), (2, .int (bI b2)), (3, .int (bI b3)), (4, .int (bI b4)), (5, .int xs0)]) rfl ?_
    exact xb_X12_nextPart_241 uk hK29 h
def fb_X12_nextPart_111 (K29 : Int32 → Bool → Bool → Bool → Int32 → uS → Option (uS × Bool)) (x1 : Int32) (b2 : Bool) (b3 : Bool) (b4 : Bool) (x5 : Int32) (x6 : Int32) (bs0 : Bool) (s : uS) : Option (uS × Bool) := if b2 = true then (if x6 = 34 then (fb_X12_nextPart_129 K29 x1 b3 b4 x5 x6 bs0 true s) else (fb_X12_nextPart_129 K29 x1 b3 b4 x5 x6 bs0 false s)) else (if x5 ≤ 0 then (if x6 = 40 then (K29 (x1 + 1) b2 b3 b4 1 s) else (if x6 = 34 then ((fn_X12_keeps b4 b3 x5 s).bind fun v8 => if v8 = true then ((fn_X12_add x6 s).bind fun s11 => K29 (x1 + 1) true b3 b4 x5 s11) else (K29 (x1 + 1) true b3 b4 x5 s)) else (if x6 = 60 then (if b3 = true then (fb_X12_nextPart_316 K29 x1 b2 b3 b4 x5 x6 s) else (if b4 = true then (fb_X12_nextPart_316 K29 x1 b2 b3 b4 x5 x6 s) else (K29 (x1 + 1) b2 true true x5 (wI s 1079 21 0)))) else (fb_X12_nextPart_316 K29 x1 b2 b3 b4 x5 x6 s)))) else (if x6 = 40 then (fb_X12_nextPart_227 K29 x1 b2 b3 b4 bs0 (x5 + 1) s) else (if x6 = 41 then (fb_X12_nextPart_227 K29 x1 b2 b3 b4 bs0 (x5 - 1) s) else (fb_X12_nextPart_227 K29 x1 b2 b3 b4 bs0 x5 s))))
set_option maxRecDepth 100000 in
set_option maxHeartbeats 4000000 in
theorem xb_X12_nextPart_111 {l : Launch} {D : va_G} {A : Nat → ClassId} {B : Nat} {Z : State → Heap → Prop} {vF : Value} (uk : uK B Z vF) {K29 : Int32 → Bool → Bool → Bool → Int32 → uS → Option (uS × Bool)} (hK29 : ∀ (x1 : Int32) (b2 : Bool) (b3 : Bool) (b4 : Bool) (x5 : Int32)  (s : uS) (r : (uS × Bool)), K29 x1 b2 b3 b4 x5 s = some r → GU l D A B Z mX12_nextPart 1 (r.1, some (.int (bI r.2))) s 29 [(0, .ref (B + 1079)), (1, .int x1), (2, .int (bI b2)), (3, .int (bI b3)), (4, .int (bI b4)), (5, .int x5)] []) {x1 : Int32} {b2 : Bool} {b3 : Bool} {b4 : Bool} {x5 : Int32} {x6 : Int32} {bs0 : Bool} {s : uS} {r : (uS × Bool)}  (h : fb_X12_nextPart_111 K29 x1 b2 b3 b4 x5 x6 bs0 s = some r) : GU l D A B Z mX12_nextPart 1 (r.1, some (.int (bI r.2))) s 111 [(0, .ref (B + 1079)), (1, .int x1), (2, .int (bI b2)), (3, .int (bI b3)), (4, .int (bI b4)), (5, .int x5), (6, .int x6)] [.int (bI bs0)] := by
  unfold fb_X12_nextPart_111 at h
  refine uu_istore dX12_nextPart_111 (by decide) rfl ?_
  refine uu_iload_n dX12_nextPart_113 rfl (List.mem_of_getElem? (i := 3) rfl) ?_
  refine uu_ifb_eq (tgt := 192) dX12_nextPart_114 (by decide) (fun c1 => ?_) (fun c1 => ?_)
  · replace h := uu_neg c1 h
    refine uu_iload dX12_nextPart_192 (List.mem_of_getElem? (i := 6) rfl) ?_
    refine uu_if_le (tgt := 245) dX12_nextPart_194 (by decide) (fun c2 => ?_) (fun c2 => ?_)
    · replace h := uu_pos c2 h
      refine uu_iload dX12_nextPart_245 (List.mem_of_getElem? (i := 7) rfl) ?_
      refine uu_bipush (v := 40) dX12_nextPart_247 (by decide) ?_
      refine uu_icmp_ne (tgt := 258) dX12_nextPart_249 (by decide) (fun c3 => ?_) (fun c3 => ?_)
      · replace h := uu_neg c3 h
        refine uu_iload dX12_nextPart_258 (List.mem_of_getElem? (i := 7) rfl) ?_
        refine uu_bipush (v := 34) dX12_nextPart_260 (by decide) ?_
        refine uu_icmp_ne (tgt := 287) dX12_nextPart_262 (by decide) (fun c4 => ?_) (fun c4 => ?_)
        · replace h := uu_neg c4 h
          refine uu_iload dX12_nextPart_287 (List.mem_of_getElem? (i := 7) rfl) ?_
          refine uu_bipush (v := 60) dX12_nextPart_289 (by decide) ?_
          refine uu_icmp_ne (tgt := 316) dX12_nextPart_291 (by decide) (fun c5 => ?_) (fun c5 => ?_)
          · replace h := uu_neg c5 h
            refine uu_lv [1, 2, 3, 4, 5, 6, 7] (lv' := [(0, .ref (B + 1079)), (1, .int x1), (2, .int (bI b2)), (3, .int (bI b3)), (4, .int (bI b4)), (5, .int x5), (6, .int x6)]) rfl ?_
            exact xb_X12_nextPart_316 uk hK29 h
          · replace h := uu_pos c5 h
            refine uu_iload_n dX12_nextPart_294 rfl (List.mem_of_getElem? (i := 4) rfl) ?_
            refine uu_ifb_ne (tgt := 316) dX12_nextPart_295 (by decide) (fun c6 => ?_) (fun c6 => ?_)
            · replace h := uu_pos c6 h
              refine uu_lv [1, 2, 3, 4, 5, 6, 7] (lv' := [(0, .ref (B + 1079)), (1, .int x1), (2, .int (bI b2)), (3, .int (bI b3)), (4, .int (bI b4)), (5, .int x5), (6, .int x6)]) rfl ?_
              exact xb_X12_nextPart_316 uk hK29 h
            · replace h := uu_neg c6 h
              refine uu_iload dX12_nextPart_298 (List.mem_of_getElem? (i := 5) rfl) ?_
              refine uu_ifb_ne (tgt := 316) dX12_nextPart_300 (by decide) (fun c7 => ?_) (fun c7 => ?_)
              · replace h := uu_pos c7 h
                refine uu_lv [1, 2, 3, 4, 5, 6, 7] (lv' := [(0, .ref (B + 1079)), (1, .int x1), (2, .int (bI b2)), (3, .int (bI b3)), (4, .int (bI b4)), (5, .int x5), (6, .int x6)]) rfl ?_
                exact xb_X12_nextPart_316 uk hK29 h
              · replace h := uu_neg c7 h
                refine uu_iconst (v := 1) dX12_nextPart_303 (by decide) ?_
                refine uu_istore_n dX12_nextPart_304 rfl (by decide) rfl ?_
                refine uu_iconst (v := 1) dX12_nextPart_305 (by decide) ?_
                refine uu_istore dX12_nextPart_306 (by decide) rfl ?_
                refine uu_aload_n dX12_nextPart_308 rfl (List.mem_of_getElem? (i := 3) rfl) ?_
                refine uu_iconst (v := 0) dX12_nextPart_309 (by decide) ?_
                refine uu_puti (ft := .int) (ci := 12) (N := 153) fX12_110 ptX12 (Or.inl rfl) (by decide) so_1079.is (by decide) (by decide) (by decide +kernel) rfl rfl dX12_nextPart_310 ?_
                refine uu_goto (tgt := 363) dX12_nextPart_313 (by decide) ?_
                refine uu_iload_n dX12_nextPart_363 rfl (List.mem_of_getElem? (i := 4) rfl) ?_
                refine uu_iconst (v := 1) dX12_nextPart_364 (by decide) ?_
                refine uu_iadd dX12_nextPart_365 ?_
                refine uu_istore_n dX12_nextPart_366 rfl (by decide) rfl ?_
                refine uu_goto (tgt := 29) dX12_nextPart_367 (by decide) ?_
                refine uu_lv [4, 0, 5, 2, 1, 6] (lv' := [(0, .ref (B + 1079)), (1, .int (x1 + 1)), (2, .int (bI b2)), (3, .int 1), (4, .int 1), (5, .int x5)]) rfl ?_
                exact hK29 (x1 + 1) b2 true true x5 _ _ h
        · replace h := uu_pos c4 h
          refine uu_iconst (v := 1) dX12_nextPart_265 (by decide) ?_
          refine uu_istore_n dX12_nextPart_266 rfl (by decide) rfl ?_
          refine uu_iload dX12_nextPart_267 (List.mem_of_getElem? (i := 5) rfl) ?_
          refine uu_iload_n dX12_nextPart_269 rfl (List.mem_of_getElem? (i := 4) rfl) ?_
          refine uu_iload dX12_nextPart_270 (List.mem_of_getElem? (i := 6) rfl) ?_
          obtain ⟨v8, e9, h⟩ := uu_ob h
          refine uu_cs (d1 := 0) (As := [.int (bI b4), .int (bI b3), .int x5]) (st := []) (st' := [.int (bI v8)]) (xc_X12_keeps uk  e9) kX12_keeps lX12_174 sX12_keeps (by decide) (Nat.le_of_ble_eq_true rfl) dX12_nextPart_272 rfl ?_
          refine uu_ifb_eq (tgt := 363) dX12_nextPart_275 (by decide) (fun c10 => ?_) (fun c10 => ?_)
          · replace h := uu_neg c10 h
            refine uu_iload_n dX12_nextPart_363 rfl (List.mem_of_getElem? (i := 3) rfl) ?_
            refine uu_iconst (v := 1) dX12_nextPart_364 (by decide) ?_
            refine uu_iadd dX12_nextPart_365 ?_
            refine uu_istore_n dX12_nextPart_366 rfl (by decide) rfl ?_
            refine uu_goto (tgt := 29) dX12_nextPart_367 (by decide) ?_
            refine uu_lv [3, 0, 1, 4, 5, 6] (lv' := [(0, .ref (B + 1079)), (1, .int (x1 + 1)), (2, .int 1), (3, .int (bI b3)), (4, .int (bI b4)), (5, .int x5)]) rfl ?_
            exact hK29 (x1 + 1) true b3 b4 x5 _ _ h
          · replace h := uu_pos c10 h
            refine uu_aload_n dX12_nextPart_278 rfl (List.mem_of_getElem? (i := 2) rfl) ?_
            refine uu_iload dX12_nextPart_279 (List.mem_of_getElem? (i := 7) rfl) ?_
            obtain ⟨s11, e12, h⟩ := uu_ob h
            refine uu_cv (d1 := 0) (k := 1079) (ci := 12) (T := TX12) (N := 153) (As := [.int x6]) (st := []) (st' := []) (xc_X12_add uk  e12) so_1079.is (by decide) rfl kX12_add lX12_178 sX12_add (by decide) (Nat.le_of_ble_eq_true rfl) dX12_nextPart_281 rfl ?_
            refine uu_goto (tgt := 363) dX12_nextPart_284 (by decide) ?_
            refine uu_iload_n dX12_nextPart_363 rfl (List.mem_of_getElem? (i := 3) rfl) ?_
            refine uu_iconst (v := 1) dX12_nextPart_364 (by decide) ?_
            refine uu_iadd dX12_nextPart_365 ?_
            refine uu_istore_n dX12_nextPart_366 rfl (by decide) rfl ?_
            refine uu_goto (tgt := 29) dX12_nextPart_367 (by decide) ?_
            refine uu_lv [3, 0, 1, 4, 5, 6] (lv' := [(0, .ref (B + 1079)), (1, .int (x1 + 1)), (2, .int 1), (3, .int (bI b3)), (4, .int (bI b4)), (5, .int x5)]) rfl ?_
            exact hK29 (x1 + 1) true b3 b4 x5 _ _ h
      · replace h := uu_pos c3 h
        refine uu_iconst (v := 1) dX12_nextPart_252 (by decide) ?_
        refine uu_istore dX12_nextPart_253 (by decide) rfl ?_
        refine uu_goto (tgt := 363) dX12_nextPart_255 (by decide) ?_
        refine uu_iload_n dX12_nextPart_363 rfl (List.mem_of_getElem? (i := 3) rfl) ?_
        refine uu_iconst (v := 1) dX12_nextPart_364 (by decide) ?_
        refine uu_iadd dX12_nextPart_365 ?_
        refine uu_istore_n dX12_nextPart_366 rfl (by decide) rfl ?_
        refine uu_goto (tgt := 29) dX12_nextPart_367 (by decide) ?_
        refine uu_lv [3, 0, 4, 5, 6, 1] (lv' := [(0, .ref (B + 1079)), (1, .int (x1 + 1)), (2, .int (bI b2)), (3, .int (bI b3)), (4, .int (bI b4)), (5, .int 1)]) rfl ?_
        exact hK29 (x1 + 1) b2 b3 b4 1 _ _ h
    · replace h := uu_neg c2 h
      refine uu_iload dX12_nextPart_197 (List.mem_of_getElem? (i := 7) rfl) ?_
      refine uu_bipush (v := 40) dX12_nextPart_199 (by decide) ?_
      refine uu_icmp_ne (tgt := 211) dX12_nextPart_201 (by decide) (fun c13 => ?_) (fun c13 => ?_)
      · replace h := uu_neg c13 h
        refine uu_iload dX12_nextPart_211 (List.mem_of_getElem? (i := 7) rfl) ?_
        refine uu_bipush (v := 41) dX12_nextPart_213 (by decide) ?_
        refine uu_icmp_ne (tgt := 225) dX12_nextPart_215 (by decide) (fun c14 => ?_) (fun c14 => ?_)
        · replace h := uu_neg c14 h
          refine uu_iload dX12_nextPart_225 (List.mem_of_getElem? (i := 6) rfl) ?_
          refine uu_lv [1, 2, 3, 4, 5, 0] (lv' := [(0, .ref (B + 1079)), (1, .int x1), (2, .int (bI b2)), (3, .int (bI b3)), (4, .int (bI b4)), (8, .int (bI bs0))]) rfl ?_
          exact xb_X12_nextPart_227 uk hK29 h
        · replace h := uu_pos c14 h
          refine uu_iload dX12_nextPart_218 (List.mem_of_getElem? (i := 6) rfl) ?_
          refine uu_iconst (v := 1) dX12_nextPart_220 (by decide) ?_
          refine uu_isub dX12_nextPart_221 ?_
          refine uu_goto (tgt := 227) dX12_nextPart_222 (by decide) ?_
          refine uu_lv [1, 2, 3, 4, 5, 0] (lv' := [(0, .ref (B + 1079)), (1, .int x1), (2, .int (bI b2)), (3, .int (bI b3)), (4, .int (bI b4)), (8, .int (bI bs0))]) rfl ?_
          exact xb_X12_nextPart_227 uk hK29 h
      · replace h := uu_pos c13 h
        refine uu_iload dX12_nextPart_204 (List.mem_of_getElem? (i := 6) rfl) ?_
        refine uu_iconst (v := 1) dX12_nextPart_206 (by decide) ?_
        refine uu_iadd dX12_nextPart_207 ?_
        refine uu_goto (tgt := 227) dX12_nextPart_208 (by decide) ?_
        refine uu_lv [1, 2, 3, 4, 5, 0] (lv' := [(0, .ref (B + 1079)), (1, .int x1), (2, .int (bI b2)), (3, .int (bI b3)), (4, .int (bI b4)), (8, .int (bI bs0))]) rfl ?_
        exact xb_X12_nextPart_227 uk hK29 h
  · replace h := uu_pos c1 h
    refine uu_iload dX12_nextPart_117 (List.mem_of_getElem? (i := 7) rfl) ?_
    refine uu_bipush (v := 34) dX12_nextPart_119 (by decide) ?_
    refine uu_icmp_ne (tgt := 128) dX12_nextPart_121 (by decide) (fun c15 => ?_) (fun c15 => ?_)
    · replace h := uu_neg c15 h
      refine uu_iconst (v := 0) dX12_nextPart_128 (by decide) ?_
      refine uu_lv [1, 2, 4, 5, 6, 7, 0] (lv' := [(0, .ref (B + 1079)), (1, .int x1), (3, .int (bI b3)), (4, .int (bI b4)), (5, .int x5), (6, .int x6), (8, .int (bI bs0))]) rfl ?_
      exact xb_X12_nextPart_129 uk hK29 h
    · replace h := uu_pos c15 h
      refine uu_iconst (v := 1) dX12_nextPart_124 (by decide) ?_
      refine uu_goto (tgt := 129) dX12_nextPart_125 (by decide) ?_
      refine uu_lv [1, 2, 4, 5, 6, 7, 0] (lv' := [(0, .ref (B + 1079)), (1, .int x1), (3, .int (bI b3)), (4, .int (bI b4)), (5, .int x5), (6, .int x6), (8, .int (bI bs0))]) rfl ?_
      exact xb_X12_nextPart_129 uk hK29 h
def fb_X12_nextPart_96 (K29 : Int32 → Bool → Bool → Bool → Int32 → uS → Option (uS × Bool)) (x1 : Int32) (b2 : Bool) (b3 : Bool) (b4 : Bool) (x5 : Int32) (x6 : Int32) (s : uS) : Option (uS × Bool) := if (s.I 1079 27) ≤ (x1 + 1) then (fb_X12_nextPart_111 K29 x1 b2 b3 b4 x5 x6 false s) else (fb_X12_nextPart_111 K29 x1 b2 b3 b4 x5 x6 true s)
set_option maxRecDepth 100000 in
set_option maxHeartbeats 4000000 in
theorem xb_X12_nextPart_96 {l : Launch} {D : va_G} {A : Nat → ClassId} {B : Nat} {Z : State → Heap → Prop} {vF : Value} (uk : uK B Z vF) {K29 : Int32 → Bool → Bool → Bool → Int32 → uS → Option (uS × Bool)} (hK29 : ∀ (x1 : Int32) (b2 : Bool) (b3 : Bool) (b4 : Bool) (x5 : Int32)  (s : uS) (r : (uS × Bool)), K29 x1 b2 b3 b4 x5 s = some r → GU l D A B Z mX12_nextPart 1 (r.1, some (.int (bI r.2))) s 29 [(0, .ref (B + 1079)), (1, .int x1), (2, .int (bI b2)), (3, .int (bI b3)), (4, .int (bI b4)), (5, .int x5)] []) {x1 : Int32} {b2 : Bool} {b3 : Bool} {b4 : Bool} {x5 : Int32} {x6 : Int32} {s : uS} {r : (uS × Bool)}  (h : fb_X12_nextPart_96 K29 x1 b2 b3 b4 x5 x6 s = some r) : GU l D A B Z mX12_nextPart 1 (r.1, some (.int (bI r.2))) s 96 [(0, .ref (B + 1079)), (1, .int x1), (2, .int (bI b2)), (3, .int (bI b3)), (4, .int (bI b4)), (5, .int x5), (6, .int x6)] [] := by
  unfold fb_X12_nextPart_96 at h
  refine uu_iload_n dX12_nextPart_96 rfl (List.mem_of_getElem? (i := 1) rfl) ?_
  refine uu_iconst (v := 1) dX12_nextPart_97 (by decide) ?_
  refine uu_iadd dX12_nextPart_98 ?_
  refine uu_aload_n dX12_nextPart_99 rfl (List.mem_of_getElem? (i := 0) rfl) ?_
  refine uu_geti (ci := 12) (N := 153) fX12_168 (by decide) so_1079.is (by decide) (by decide) dX12_nextPart_100 ?_
  refine uu_icmp_ge (tgt := 110) dX12_nextPart_103 (by decide) (fun c1 => ?_) (fun c1 => ?_)
  · replace h := uu_pos c1 h
    refine uu_iconst (v := 0) dX12_nextPart_110 (by decide) ?_
    exact xb_X12_nextPart_111 uk hK29 h
  · replace h := uu_neg c1 h
    refine uu_iconst (v := 1) dX12_nextPart_106 (by decide) ?_
    refine uu_goto (tgt := 111) dX12_nextPart_107 (by decide) ?_
    exact xb_X12_nextPart_111 uk hK29 h
def fb_X12_nextPart_70 (K29 : Int32 → Bool → Bool → Bool → Int32 → uS → Option (uS × Bool)) (x1 : Int32) (b2 : Bool) (b3 : Bool) (b4 : Bool) (x5 : Int32) (x6 : Int32) (bs0 : Bool) (s : uS) : Option (uS × Bool) := if bs0 = true then (fb_X12_nextPart_370 x1 b3 s) else (if x6 = 92 then (if b2 = true then (fb_X12_nextPart_96 K29 x1 b2 b3 b4 x5 x6 s) else (if x5 ≤ 0 then (fb_X12_nextPart_111 K29 x1 b2 b3 b4 x5 x6 false s) else (fb_X12_nextPart_96 K29 x1 b2 b3 b4 x5 x6 s))) else (fb_X12_nextPart_111 K29 x1 b2 b3 b4 x5 x6 false s))
set_option maxRecDepth 100000 in
set_option maxHeartbeats 4000000 in
theorem xb_X12_nextPart_70 {l : Launch} {D : va_G} {A : Nat → ClassId} {B : Nat} {Z : State → Heap → Prop} {vF : Value} (uk : uK B Z vF) {K29 : Int32 → Bool → Bool → Bool → Int32 → uS → Option (uS × Bool)} (hK29 : ∀ (x1 : Int32) (b2 : Bool) (b3 : Bool) (b4 : Bool) (x5 : Int32)  (s : uS) (r : (uS × Bool)), K29 x1 b2 b3 b4 x5 s = some r → GU l D A B Z mX12_nextPart 1 (r.1, some (.int (bI r.2))) s 29 [(0, .ref (B + 1079)), (1, .int x1), (2, .int (bI b2)), (3, .int (bI b3)), (4, .int (bI b4)), (5, .int x5)] []) {x1 : Int32} {b2 : Bool} {b3 : Bool} {b4 : Bool} {x5 : Int32} {x6 : Int32} {bs0 : Bool} {s : uS} {r : (uS × Bool)}  (h : fb_X12_nextPart_70 K29 x1 b2 b3 b4 x5 x6 bs0 s = some r) : GU l D A B Z mX12_nextPart 1 (r.1, some (.int (bI r.2))) s 70 [(0, .ref (B + 1079)), (1, .int x1), (2, .int (bI b2)), (3, .int (bI b3)), (4, .int (bI b4)), (5, .int x5), (6, .int x6)] [.int (bI bs0)] := by
  unfold fb_X12_nextPart_70 at h
  refine uu_istore dX12_nextPart_70 (by decide) rfl ?_
  refine uu_iload dX12_nextPart_72 (List.mem_of_getElem? (i := 0) rfl) ?_
  refine uu_ifb_eq (tgt := 80) dX12_nextPart_74 (by decide) (fun c1 => ?_) (fun c1 => ?_)
  · replace h := uu_neg c1 h
    refine uu_iload dX12_nextPart_80 (List.mem_of_getElem? (i := 7) rfl) ?_
    refine uu_bipush (v := 92) dX12_nextPart_82 (by decide) ?_
    refine uu_icmp_ne (tgt := 110) dX12_nextPart_84 (by decide) (fun c2 => ?_) (fun c2 => ?_)
    · replace h := uu_neg c2 h
      refine uu_iconst (v := 0) dX12_nextPart_110 (by decide) ?_
      refine uu_lv [1, 2, 3, 4, 5, 6, 7] (lv' := [(0, .ref (B + 1079)), (1, .int x1), (2, .int (bI b2)), (3, .int (bI b3)), (4, .int (bI b4)), (5, .int x5), (6, .int x6)]) rfl ?_
      exact xb_X12_nextPart_111 uk hK29 h
    · replace h := uu_pos c2 h
      refine uu_iload_n dX12_nextPart_87 rfl (List.mem_of_getElem? (i := 3) rfl) ?_
      refine uu_ifb_ne (tgt := 96) dX12_nextPart_88 (by decide) (fun c3 => ?_) (fun c3 => ?_)
      · replace h := uu_pos c3 h
        refine uu_lv [1, 2, 3, 4, 5, 6, 7] (lv' := [(0, .ref (B + 1079)), (1, .int x1), (2, .int (bI b2)), (3, .int (bI b3)), (4, .int (bI b4)), (5, .int x5), (6, .int x6)]) rfl ?_
        exact xb_X12_nextPart_96 uk hK29 h
      · replace h := uu_neg c3 h
        refine uu_iload dX12_nextPart_91 (List.mem_of_getElem? (i := 6) rfl) ?_
        refine uu_if_le (tgt := 110) dX12_nextPart_93 (by decide) (fun c4 => ?_) (fun c4 => ?_)
        · replace h := uu_pos c4 h
          refine uu_iconst (v := 0) dX12_nextPart_110 (by decide) ?_
          refine uu_lv [1, 2, 3, 4, 5, 6, 7] (lv' := [(0, .ref (B + 1079)), (1, .int x1), (2, .int (bI b2)), (3, .int (bI b3)), (4, .int (bI b4)), (5, .int x5), (6, .int x6)]) rfl ?_
          exact xb_X12_nextPart_111 uk hK29 h
        · replace h := uu_neg c4 h
          refine uu_lv [1, 2, 3, 4, 5, 6, 7] (lv' := [(0, .ref (B + 1079)), (1, .int x1), (2, .int (bI b2)), (3, .int (bI b3)), (4, .int (bI b4)), (5, .int x5), (6, .int x6)]) rfl ?_
          exact xb_X12_nextPart_96 uk hK29 h
  · replace h := uu_pos c1 h
    refine uu_goto (tgt := 370) dX12_nextPart_77 (by decide) ?_
    refine uu_lv [1, 2, 4] (lv' := [(0, .ref (B + 1079)), (1, .int x1), (3, .int (bI b3))]) rfl ?_
    exact xb_X12_nextPart_370 uk  h
def fb_X12_nextPart_29 (K29 : Int32 → Bool → Bool → Bool → Int32 → uS → Option (uS × Bool)) (x1 : Int32) (b2 : Bool) (b3 : Bool) (b4 : Bool) (x5 : Int32) (s : uS) : Option (uS × Bool) := if (s.I 1079 27) ≤ x1 then (fb_X12_nextPart_370 x1 b3 s) else ((iget 20 s 1095 x1).bind fun v2 => if v2 = 44 then (if b2 = true then (fb_X12_nextPart_70 K29 x1 b2 b3 b4 x5 v2 false s) else (if b3 = true then (fb_X12_nextPart_70 K29 x1 b2 b3 b4 x5 v2 false s) else (if x5 = 0 then (fb_X12_nextPart_70 K29 x1 b2 b3 b4 x5 v2 true s) else (fb_X12_nextPart_70 K29 x1 b2 b3 b4 x5 v2 false s)))) else (fb_X12_nextPart_70 K29 x1 b2 b3 b4 x5 v2 false s))
set_option maxRecDepth 100000 in
set_option maxHeartbeats 4000000 in
theorem xb_X12_nextPart_29 {l : Launch} {D : va_G} {A : Nat → ClassId} {B : Nat} {Z : State → Heap → Prop} {vF : Value} (uk : uK B Z vF) {K29 : Int32 → Bool → Bool → Bool → Int32 → uS → Option (uS × Bool)} (hK29 : ∀ (x1 : Int32) (b2 : Bool) (b3 : Bool) (b4 : Bool) (x5 : Int32)  (s : uS) (r : (uS × Bool)), K29 x1 b2 b3 b4 x5 s = some r → GU l D A B Z mX12_nextPart 1 (r.1, some (.int (bI r.2))) s 29 [(0, .ref (B + 1079)), (1, .int x1), (2, .int (bI b2)), (3, .int (bI b3)), (4, .int (bI b4)), (5, .int x5)] []) {x1 : Int32} {b2 : Bool} {b3 : Bool} {b4 : Bool} {x5 : Int32} {s : uS} {r : (uS × Bool)}  (h : fb_X12_nextPart_29 K29 x1 b2 b3 b4 x5 s = some r) : GU l D A B Z mX12_nextPart 1 (r.1, some (.int (bI r.2))) s 29 [(0, .ref (B + 1079)), (1, .int x1), (2, .int (bI b2)), (3, .int (bI b3)), (4, .int (bI b4)), (5, .int x5)] [] := by
  unfold fb_X12_nextPart_29 at h
  refine uu_iload_n dX12_nextPart_29 rfl (List.mem_of_getElem? (i := 1) rfl) ?_
  refine uu_aload_n dX12_nextPart_30 rfl (List.mem_of_getElem? (i := 0) rfl) ?_
  refine uu_geti (ci := 12) (N := 153) fX12_168 (by decide) so_1079.is (by decide) (by decide) dX12_nextPart_31 ?_
  refine uu_icmp_ge (tgt := 370) dX12_nextPart_34 (by decide) (fun c1 => ?_) (fun c1 => ?_)
  · replace h := uu_pos c1 h
    refine uu_lv [0, 1, 3] (lv' := [(0, .ref (B + 1079)), (1, .int x1), (3, .int (bI b3))]) rfl ?_
    exact xb_X12_nextPart_370 uk  h
  · replace h := uu_neg c1 h
    refine uu_aload_n dX12_nextPart_37 rfl (List.mem_of_getElem? (i := 0) rfl) ?_
    refine uu_geta (ci := 12) (N := 153) fX12_171 (by decide) so_1079.is (by decide) (c := 1095) (by decide) dX12_nextPart_38 ?_
    refine uu_iload_n dX12_nextPart_41 rfl (List.mem_of_getElem? (i := 1) rfl) ?_
    obtain ⟨v2, e3, h⟩ := uu_ob h
    refine uu_iald e3 dX12_nextPart_42 ?_
    refine uu_istore dX12_nextPart_43 (by decide) rfl ?_
    refine uu_iload dX12_nextPart_45 (List.mem_of_getElem? (i := 0) rfl) ?_
    refine uu_bipush (v := 44) dX12_nextPart_47 (by decide) ?_
    refine uu_icmp_ne (tgt := 69) dX12_nextPart_49 (by decide) (fun c4 => ?_) (fun c4 => ?_)
    · replace h := uu_neg c4 h
      refine uu_iconst (v := 0) dX12_nextPart_69 (by decide) ?_
      refine uu_lv [1, 2, 3, 4, 5, 6, 0] (lv' := [(0, .ref (B + 1079)), (1, .int x1), (2, .int (bI b2)), (3, .int (bI b3)), (4, .int (bI b4)), (5, .int x5), (6, .int v2)]) rfl ?_
      exact xb_X12_nextPart_70 uk hK29 h
    · replace h := uu_pos c4 h
      refine uu_iload_n dX12_nextPart_52 rfl (List.mem_of_getElem? (i := 3) rfl) ?_
      refine uu_ifb_ne (tgt := 69) dX12_nextPart_53 (by decide) (fun c5 => ?_) (fun c5 => ?_)
      · replace h := uu_pos c5 h
        refine uu_iconst (v := 0) dX12_nextPart_69 (by decide) ?_
        refine uu_lv [1, 2, 3, 4, 5, 6, 0] (lv' := [(0, .ref (B + 1079)), (1, .int x1), (2, .int (bI b2)), (3, .int (bI b3)), (4, .int (bI b4)), (5, .int x5), (6, .int v2)]) rfl ?_
        exact xb_X12_nextPart_70 uk hK29 h
      · replace h := uu_neg c5 h
        refine uu_iload_n dX12_nextPart_56 rfl (List.mem_of_getElem? (i := 4) rfl) ?_
        refine uu_ifb_ne (tgt := 69) dX12_nextPart_57 (by decide) (fun c6 => ?_) (fun c6 => ?_)
        · replace h := uu_pos c6 h
          refine uu_iconst (v := 0) dX12_nextPart_69 (by decide) ?_
          refine uu_lv [1, 2, 3, 4, 5, 6, 0] (lv' := [(0, .ref (B + 1079)), (1, .int x1), (2, .int (bI b2)), (3, .int (bI b3)), (4, .int (bI b4)), (5, .int x5), (6, .int v2)]) rfl ?_
          exact xb_X12_nextPart_70 uk hK29 h
        · replace h := uu_neg c6 h
          refine uu_iload dX12_nextPart_60 (List.mem_of_getElem? (i := 6) rfl) ?_
          refine uu_if_ne (tgt := 69) dX12_nextPart_62 (by decide) (fun c7 => ?_) (fun c7 => ?_)
          · replace h := uu_neg c7 h
            refine uu_iconst (v := 0) dX12_nextPart_69 (by decide) ?_
            refine uu_lv [1, 2, 3, 4, 5, 6, 0] (lv' := [(0, .ref (B + 1079)), (1, .int x1), (2, .int (bI b2)), (3, .int (bI b3)), (4, .int (bI b4)), (5, .int x5), (6, .int v2)]) rfl ?_
            exact xb_X12_nextPart_70 uk hK29 h
          · replace h := uu_pos c7 h
            refine uu_iconst (v := 1) dX12_nextPart_65 (by decide) ?_
            refine uu_goto (tgt := 70) dX12_nextPart_66 (by decide) ?_
            refine uu_lv [1, 2, 3, 4, 5, 6, 0] (lv' := [(0, .ref (B + 1079)), (1, .int x1), (2, .int (bI b2)), (3, .int (bI b3)), (4, .int (bI b4)), (5, .int x5), (6, .int v2)]) rfl ?_
            exact xb_X12_nextPart_70 uk hK29 h
def fn_X12_nextPart_29  : Nat → Int32 → Bool → Bool → Bool → Int32 → uS → Option (uS × Bool)
  | 0 => fun _ _ _ _ _ _ => none
  | n + 1 => fb_X12_nextPart_29 (fn_X12_nextPart_29  n)
set_option maxRecDepth 100000 in
set_option maxHeartbeats 4000000 in
theorem xn_X12_nextPart_29 {l : Launch} {D : va_G} {A : Nat → ClassId} {B : Nat} {Z : State → Heap → Prop} {vF : Value} (uk : uK B Z vF)   : ∀ (n : Nat) (x1 : Int32) (b2 : Bool) (b3 : Bool) (b4 : Bool) (x5 : Int32)  (s : uS) (r : (uS × Bool)), fn_X12_nextPart_29  n x1 b2 b3 b4 x5 s = some r → GU l D A B Z mX12_nextPart 1 (r.1, some (.int (bI r.2))) s 29 [(0, .ref (B + 1079)), (1, .int x1), (2, .int (bI b2)), (3, .int (bI b3)), (4, .int (bI b4)), (5, .int x5)] [] := by
  intro n
  induction n with
  | zero => intro x1 b2 b3 b4 x5 s r h
            cases h
  | succ n ih => intro x1 b2 b3 b4 x5 s r h
                 exact xb_X12_nextPart_29 uk ih  h
def fn_X12_nextPart  (s : uS) : Option (uS × Bool) := if (s.I 1079 25) = 0 then (some (s, false)) else (fn_X12_nextPart_29 uFu (s.I 1079 24) false false false 0 (wI s 1079 21 0))
set_option maxRecDepth 100000 in
set_option maxHeartbeats 4000000 in
theorem xc_X12_nextPart {l : Launch} {D : va_G} {A : Nat → ClassId} {B : Nat} {Z : State → Heap → Prop} {vF : Value} (uk : uK B Z vF)  {s : uS} {r : (uS × Bool)}  (h : fn_X12_nextPart  s = some r) : CU l D A B Z 1 mX12_nextPart s [.ref (B + 1079)] (r.1, some (.int (bI r.2))) := by
  unfold fn_X12_nextPart at h
  refine cu_of rfl uk.1.1 (Nat.le_of_ble_eq_true rfl) ?_
  show GU _ _ _ _ _ _ _ _ _ 0 [(0, .ref (B + 1079))] []
  refine uu_aload_n dX12_nextPart_0 rfl (List.mem_of_getElem? (i := 0) rfl) ?_
  refine uu_geti (ci := 12) (N := 153) fX12_165 (by decide) so_1079.is (by decide) (by decide) dX12_nextPart_1 ?_
  refine uu_if_ne (tgt := 9) dX12_nextPart_4 (by decide) (fun c1 => ?_) (fun c1 => ?_)
  · replace h := uu_neg c1 h
    refine uu_aload_n dX12_nextPart_9 rfl (List.mem_of_getElem? (i := 0) rfl) ?_
    refine uu_geti (ci := 12) (N := 153) fX12_162 (by decide) so_1079.is (by decide) (by decide) dX12_nextPart_10 ?_
    refine uu_istore_n dX12_nextPart_13 rfl (by decide) rfl ?_
    refine uu_iconst (v := 0) dX12_nextPart_14 (by decide) ?_
    refine uu_istore_n dX12_nextPart_15 rfl (by decide) rfl ?_
    refine uu_iconst (v := 0) dX12_nextPart_16 (by decide) ?_
    refine uu_istore_n dX12_nextPart_17 rfl (by decide) rfl ?_
    refine uu_iconst (v := 0) dX12_nextPart_18 (by decide) ?_
    refine uu_istore dX12_nextPart_19 (by decide) rfl ?_
    refine uu_iconst (v := 0) dX12_nextPart_21 (by decide) ?_
    refine uu_istore dX12_nextPart_22 (by decide) rfl ?_
    refine uu_aload_n dX12_nextPart_24 rfl (List.mem_of_getElem? (i := 5) rfl) ?_
    refine uu_iconst (v := 0) dX12_nextPart_25 (by decide) ?_
    refine uu_puti (ft := .int) (ci := 12) (N := 153) fX12_110 ptX12 (Or.inl rfl) (by decide) so_1079.is (by decide) (by decide) (by decide +kernel) rfl rfl dX12_nextPart_26 ?_
    refine uu_lv [5, 4, 3, 2, 1, 0] (lv' := [(0, .ref (B + 1079)), (1, .int (s.I 1079 24)), (2, .int 0), (3, .int 0), (4, .int 0), (5, .int 0)]) rfl ?_
    exact xn_X12_nextPart_29 uk  _ _ _ _ _ _ _ _ h
  · replace h := uu_pos c1 h
    refine uu_iconst (v := 0) dX12_nextPart_7 (by decide) ?_
    have hr := Option.some.inj h
    subst hr
    exact uu_zret (x := bI false) rfl (bI_z _) dX12_nextPart_8
abbrev mX12_peek : hM := (yX12_peek, cX12_peek, 2, (some (.int)))
theorem dX12_peek_0 : decode cX12_peek 0 = .ok (.aload_n 0, 1) := by decide +kernel
theorem fX12_181 : h_fl RX12 181 12 30 RX12 TX12 153 := ⟨rfl, by decide, inX12, h_t11 231 rfl rfl⟩
theorem dX12_peek_1 : decode cX12_peek 1 = .ok (.getfield 181, 3) := by decide +kernel
theorem dX12_peek_4 : decode cX12_peek 4 = .ok (.iload_n 1, 1) := by decide +kernel
theorem dX12_peek_5 : decode cX12_peek 5 = .ok (.iadd, 1) := by decide +kernel
theorem dX12_peek_6 : decode cX12_peek 6 = .ok (.aload_n 0, 1) := by decide +kernel
theorem fX12_184 : h_fl RX12 184 12 29 RX12 TX12 153 := ⟨rfl, by decide, inX12, h_t11 230 rfl rfl⟩
theorem dX12_peek_7 : decode cX12_peek 7 = .ok (.getfield 184, 3) := by decide +kernel
theorem dX12_peek_10 : decode cX12_peek 10 = .ok (.if_icmp .ge 17, 3) := by decide +kernel
theorem dX12_peek_27 : decode cX12_peek 27 = .ok (.iconst (-1), 1) := by decide +kernel
theorem dX12_peek_28 : decode cX12_peek 28 = .ok (.ireturn, 1) := by decide +kernel
theorem dX12_peek_13 : decode cX12_peek 13 = .ok (.aload_n 0, 1) := by decide +kernel
theorem dX12_peek_14 : decode cX12_peek 14 = .ok (.getfield 187, 3) := by decide +kernel
theorem dX12_peek_17 : decode cX12_peek 17 = .ok (.aload_n 0, 1) := by decide +kernel
theorem dX12_peek_18 : decode cX12_peek 18 = .ok (.getfield 181, 3) := by decide +kernel
theorem dX12_peek_21 : decode cX12_peek 21 = .ok (.iload_n 1, 1) := by decide +kernel
theorem dX12_peek_22 : decode cX12_peek 22 = .ok (.iadd, 1) := by decide +kernel
theorem dX12_peek_23 : decode cX12_peek 23 = .ok (.iaload, 1) := by decide +kernel
theorem dX12_peek_24 : decode cX12_peek 24 = .ok (.goto 4, 3) := by decide +kernel
def fn_X12_peek (x1 : Int32) (s : uS) : Option Int32 := if (s.I 1079 29) ≤ ((s.I 1079 30) + x1) then (some (-1 : Int32)) else ((iget 20 s 1096 ((s.I 1079 30) + x1)).bind fun v2 => some v2)
set_option maxRecDepth 100000 in
set_option maxHeartbeats 4000000 in
theorem xc_X12_peek {l : Launch} {D : va_G} {A : Nat → ClassId} {B : Nat} {Z : State → Heap → Prop} {vF : Value} (uk : uK B Z vF) {x1 : Int32} {s : uS} {r : Int32}  (h : fn_X12_peek x1 s = some r) : CU l D A B Z 0 mX12_peek s [.ref (B + 1079), .int x1] (s, some (.int r)) := by
  unfold fn_X12_peek at h
  refine cu_of rfl uk.1.1 (Nat.le_of_ble_eq_true rfl) ?_
  show GU _ _ _ _ _ _ _ _ _ 0 [(0, .ref (B + 1079)), (1, .int x1)] []
  refine uu_aload_n dX12_peek_0 rfl (List.mem_of_getElem? (i := 0) rfl) ?_
  refine uu_geti (ci := 12) (N := 153) fX12_181 (by decide) so_1079.is (by decide) (by decide) dX12_peek_1 ?_
  refine uu_iload_n dX12_peek_4 rfl (List.mem_of_getElem? (i := 1) rfl) ?_
  refine uu_iadd dX12_peek_5 ?_
  refine uu_aload_n dX12_peek_6 rfl (List.mem_of_getElem? (i := 0) rfl) ?_
  refine uu_geti (ci := 12) (N := 153) fX12_184 (by decide) so_1079.is (by decide) (by decide) dX12_peek_7 ?_
  refine uu_icmp_ge (tgt := 27) dX12_peek_10 (by decide) (fun c1 => ?_) (fun c1 => ?_)
  · replace h := uu_pos c1 h
    refine uu_iconst (v := -1) dX12_peek_27 (by decide) ?_
    have hr := Option.some.inj h
    subst hr
    exact uu_iret rfl dX12_peek_28
  · replace h := uu_neg c1 h
    refine uu_aload_n dX12_peek_13 rfl (List.mem_of_getElem? (i := 0) rfl) ?_
    refine uu_geta (ci := 12) (N := 153) fX12_187 (by decide) so_1079.is (by decide) (c := 1096) (by decide) dX12_peek_14 ?_
    refine uu_aload_n dX12_peek_17 rfl (List.mem_of_getElem? (i := 0) rfl) ?_
    refine uu_geti (ci := 12) (N := 153) fX12_181 (by decide) so_1079.is (by decide) (by decide) dX12_peek_18 ?_
    refine uu_iload_n dX12_peek_21 rfl (List.mem_of_getElem? (i := 1) rfl) ?_
    refine uu_iadd dX12_peek_22 ?_
    obtain ⟨v2, e3, h⟩ := uu_ob h
    refine uu_iald e3 dX12_peek_23 ?_
    refine uu_goto (tgt := 28) dX12_peek_24 (by decide) ?_
    have hr := Option.some.inj h
    subst hr
    exact uu_iret rfl dX12_peek_28
abbrev mX12_isWordByte : hM := (yX12_isWordByte, cX12_isWordByte, 1, (some (.boolean)))
theorem dX12_isWordByte_0 : decode cX12_isWordByte 0 = .ok (.iload_n 0, 1) := by decide +kernel
theorem dX12_isWordByte_1 : decode cX12_isWordByte 1 = .ok (.invokestatic 133, 3) := by decide +kernel
theorem dX12_isWordByte_4 : decode cX12_isWordByte 4 = .ok (.ifCond .ne 16, 3) := by decide +kernel
theorem dX12_isWordByte_20 : decode cX12_isWordByte 20 = .ok (.iconst 1, 1) := by decide +kernel
theorem dX12_isWordByte_21 : decode cX12_isWordByte 21 = .ok (.goto 4, 3) := by decide +kernel
theorem dX12_isWordByte_25 : decode cX12_isWordByte 25 = .ok (.ireturn, 1) := by decide +kernel
theorem dX12_isWordByte_7 : decode cX12_isWordByte 7 = .ok (.iload_n 0, 1) := by decide +kernel
theorem dX12_isWordByte_8 : decode cX12_isWordByte 8 = .ok (.invokestatic 137, 3) := by decide +kernel
theorem dX12_isWordByte_11 : decode cX12_isWordByte 11 = .ok (.ifCond .ne 9, 3) := by decide +kernel
theorem dX12_isWordByte_14 : decode cX12_isWordByte 14 = .ok (.iload_n 0, 1) := by decide +kernel
theorem dX12_isWordByte_15 : decode cX12_isWordByte 15 = .ok (.bipush 95, 2) := by decide +kernel
theorem dX12_isWordByte_17 : decode cX12_isWordByte 17 = .ok (.if_icmp .ne 7, 3) := by decide +kernel
theorem dX12_isWordByte_24 : decode cX12_isWordByte 24 = .ok (.iconst 0, 1) := by decide +kernel
def fn_X12_isWordByte (x0 : Int32) (s : uS) : Option Bool := (fn_X12_isLetter x0 s).bind fun v1 => if v1 = true then (some true) else ((fn_X12_isDigit x0 s).bind fun v4 => if v4 = true then (some true) else (if x0 = 95 then (some true) else (some false)))
set_option maxRecDepth 100000 in
set_option maxHeartbeats 4000000 in
theorem xc_X12_isWordByte {l : Launch} {D : va_G} {A : Nat → ClassId} {B : Nat} {Z : State → Heap → Prop} {vF : Value} (uk : uK B Z vF) {x0 : Int32} {s : uS} {r : Bool}  (h : fn_X12_isWordByte x0 s = some r) : CU l D A B Z 1 mX12_isWordByte s [.int x0] (s, some (.int (bI r))) := by
  unfold fn_X12_isWordByte at h
  refine cu_of rfl uk.1.1 (Nat.le_of_ble_eq_true rfl) ?_
  show GU _ _ _ _ _ _ _ _ _ 0 [(0, .int x0)] []
  refine uu_iload_n dX12_isWordByte_0 rfl (List.mem_of_getElem? (i := 0) rfl) ?_
  obtain ⟨v1, e2, h⟩ := uu_ob h
  refine uu_cs (d1 := 0) (As := [.int x0]) (st := []) (st' := [.int (bI v1)]) (xc_X12_isLetter uk  e2) kX12_isLetter lX12_133 sX12_isLetter (by decide) (Nat.le_of_ble_eq_true rfl) dX12_isWordByte_1 rfl ?_
  refine uu_ifb_ne (tgt := 20) dX12_isWordByte_4 (by decide) (fun c3 => ?_) (fun c3 => ?_)
  · replace h := uu_pos c3 h
    refine uu_iconst (v := 1) dX12_isWordByte_20 (by decide) ?_
    refine uu_goto (tgt := 25) dX12_isWordByte_21 (by decide) ?_
    have hr := Option.some.inj h
    subst hr
    exact uu_zret (x := bI true) rfl (bI_z _) dX12_isWordByte_25
  · replace h := uu_neg c3 h
    refine uu_iload_n dX12_isWordByte_7 rfl (List.mem_of_getElem? (i := 0) rfl) ?_
    obtain ⟨v4, e5, h⟩ := uu_ob h
    refine uu_cs (d1 := 0) (As := [.int x0]) (st := []) (st' := [.int (bI v4)]) (xc_X12_isDigit uk  e5) kX12_isDigit lX12_137 sX12_isDigit (by decide) (Nat.le_of_ble_eq_true rfl) dX12_isWordByte_8 rfl ?_
    refine uu_ifb_ne (tgt := 20) dX12_isWordByte_11 (by decide) (fun c6 => ?_) (fun c6 => ?_)
    · replace h := uu_pos c6 h
      refine uu_iconst (v := 1) dX12_isWordByte_20 (by decide) ?_
      refine uu_goto (tgt := 25) dX12_isWordByte_21 (by decide) ?_
      have hr := Option.some.inj h
      subst hr
      exact uu_zret (x := bI true) rfl (bI_z _) dX12_isWordByte_25
    · replace h := uu_neg c6 h
      refine uu_iload_n dX12_isWordByte_14 rfl (List.mem_of_getElem? (i := 0) rfl) ?_
      refine uu_bipush (v := 95) dX12_isWordByte_15 (by decide) ?_
      refine uu_icmp_ne (tgt := 24) dX12_isWordByte_17 (by decide) (fun c7 => ?_) (fun c7 => ?_)
      · replace h := uu_neg c7 h
        refine uu_iconst (v := 0) dX12_isWordByte_24 (by decide) ?_
        have hr := Option.some.inj h
        subst hr
        exact uu_zret (x := bI false) rfl (bI_z _) dX12_isWordByte_25
      · replace h := uu_pos c7 h
        refine uu_iconst (v := 1) dX12_isWordByte_20 (by decide) ?_
        refine uu_goto (tgt := 25) dX12_isWordByte_21 (by decide) ?_
        have hr := Option.some.inj h
        subst hr
        exact uu_zret (x := bI true) rfl (bI_z _) dX12_isWordByte_25
abbrev mX12_skip : hM := (yX12_skip, cX12_skip, 4, (some (.boolean)))
theorem dX12_skip_36 : decode cX12_skip 36 = .ok (.aload_n 0, 1) := by decide +kernel
theorem dX12_skip_37 : decode cX12_skip 37 = .ok (.aload_n 0, 1) := by decide +kernel
theorem dX12_skip_38 : decode cX12_skip 38 = .ok (.getfield 181, 3) := by decide +kernel
theorem dX12_skip_41 : decode cX12_skip 41 = .ok (.iconst 1, 1) := by decide +kernel
theorem dX12_skip_42 : decode cX12_skip 42 = .ok (.iadd, 1) := by decide +kernel
theorem dX12_skip_43 : decode cX12_skip 43 = .ok (.putfield 181, 3) := by decide +kernel
theorem dX12_skip_46 : decode cX12_skip 46 = .ok (.goto 128, 3) := by decide +kernel
theorem dX12_skip_174 : decode cX12_skip 174 = .ok (.goto (-172), 3) := by decide +kernel
theorem dX12_skip_55 : decode cX12_skip 55 = .ok (.aload_n 0, 1) := by decide +kernel
theorem dX12_skip_56 : decode cX12_skip 56 = .ok (.iconst 0, 1) := by decide +kernel
theorem kX12_peek : h_ml mX12_peek 1 := ⟨h_t8 72 rfl rfl, h_t1 16 rfl rfl, ⟨by decide, by decide, by decide +kernel⟩, by decide⟩
theorem lX12_190 : Cond.methodLink RX12 190 mX12_peek.1 ∈ lw_g := h_t8 69 rfl rfl
theorem sX12_peek : Cond.instanceMethod mX12_peek.1 ∈ lw_g ∧ Cond.selects mX12_peek.1.cls mX12_peek.1 mX12_peek.1 ∈ lw_g := ⟨h_t8 71 rfl rfl, h_ins 121 rfl⟩
theorem dX12_skip_57 : decode cX12_skip 57 = .ok (.invokevirtual 190, 3) := by decide +kernel
theorem dX12_skip_60 : decode cX12_skip 60 = .ok (.ifCond .lt 114, 3) := by decide +kernel
theorem dX12_skip_63 : decode cX12_skip 63 = .ok (.aload_n 0, 1) := by decide +kernel
theorem dX12_skip_64 : decode cX12_skip 64 = .ok (.iconst 0, 1) := by decide +kernel
theorem dX12_skip_65 : decode cX12_skip 65 = .ok (.invokevirtual 190, 3) := by decide +kernel
theorem dX12_skip_68 : decode cX12_skip 68 = .ok (.bipush 10, 2) := by decide +kernel
theorem dX12_skip_70 : decode cX12_skip 70 = .ok (.if_icmp .eq 104, 3) := by decide +kernel
theorem dX12_skip_73 : decode cX12_skip 73 = .ok (.aload_n 0, 1) := by decide +kernel
theorem dX12_skip_74 : decode cX12_skip 74 = .ok (.aload_n 0, 1) := by decide +kernel
theorem dX12_skip_75 : decode cX12_skip 75 = .ok (.getfield 181, 3) := by decide +kernel
theorem dX12_skip_78 : decode cX12_skip 78 = .ok (.iconst 1, 1) := by decide +kernel
theorem dX12_skip_79 : decode cX12_skip 79 = .ok (.iadd, 1) := by decide +kernel
theorem dX12_skip_80 : decode cX12_skip 80 = .ok (.putfield 181, 3) := by decide +kernel
theorem dX12_skip_83 : decode cX12_skip 83 = .ok (.goto (-28), 3) := by decide +kernel
theorem dX12_skip_150 : decode cX12_skip 150 = .ok (.iload_n 3, 1) := by decide +kernel
theorem dX12_skip_151 : decode cX12_skip 151 = .ok (.iconst 1, 1) := by decide +kernel
theorem dX12_skip_152 : decode cX12_skip 152 = .ok (.iadd, 1) := by decide +kernel
theorem dX12_skip_153 : decode cX12_skip 153 = .ok (.aload_n 0, 1) := by decide +kernel
theorem dX12_skip_154 : decode cX12_skip 154 = .ok (.getfield 184, 3) := by decide +kernel
theorem dX12_skip_157 : decode cX12_skip 157 = .ok (.if_icmp .lt 5, 3) := by decide +kernel
theorem dX12_skip_162 : decode cX12_skip 162 = .ok (.aload_n 0, 1) := by decide +kernel
theorem dX12_skip_163 : decode cX12_skip 163 = .ok (.iload_n 3, 1) := by decide +kernel
theorem dX12_skip_164 : decode cX12_skip 164 = .ok (.iconst 2, 1) := by decide +kernel
theorem dX12_skip_165 : decode cX12_skip 165 = .ok (.iadd, 1) := by decide +kernel
theorem dX12_skip_166 : decode cX12_skip 166 = .ok (.putfield 181, 3) := by decide +kernel
theorem dX12_skip_169 : decode cX12_skip 169 = .ok (.goto 5, 3) := by decide +kernel
theorem dX12_skip_160 : decode cX12_skip 160 = .ok (.iconst 0, 1) := by decide +kernel
theorem dX12_skip_161 : decode cX12_skip 161 = .ok (.ireturn, 1) := by decide +kernel
theorem dX12_skip_109 : decode cX12_skip 109 = .ok (.iload_n 3, 1) := by decide +kernel
theorem dX12_skip_110 : decode cX12_skip 110 = .ok (.iconst 1, 1) := by decide +kernel
theorem dX12_skip_111 : decode cX12_skip 111 = .ok (.iadd, 1) := by decide +kernel
theorem dX12_skip_112 : decode cX12_skip 112 = .ok (.aload_n 0, 1) := by decide +kernel
theorem dX12_skip_113 : decode cX12_skip 113 = .ok (.getfield 184, 3) := by decide +kernel
theorem dX12_skip_116 : decode cX12_skip 116 = .ok (.if_icmp .ge 34, 3) := by decide +kernel
theorem dX12_skip_119 : decode cX12_skip 119 = .ok (.aload_n 0, 1) := by decide +kernel
theorem dX12_skip_120 : decode cX12_skip 120 = .ok (.getfield 187, 3) := by decide +kernel
theorem dX12_skip_123 : decode cX12_skip 123 = .ok (.iload_n 3, 1) := by decide +kernel
theorem dX12_skip_124 : decode cX12_skip 124 = .ok (.iaload, 1) := by decide +kernel
theorem dX12_skip_125 : decode cX12_skip 125 = .ok (.bipush 42, 2) := by decide +kernel
theorem dX12_skip_127 : decode cX12_skip 127 = .ok (.if_icmp .ne 16, 3) := by decide +kernel
theorem dX12_skip_143 : decode cX12_skip 143 = .ok (.iload_n 3, 1) := by decide +kernel
theorem dX12_skip_144 : decode cX12_skip 144 = .ok (.iconst 1, 1) := by decide +kernel
theorem dX12_skip_145 : decode cX12_skip 145 = .ok (.iadd, 1) := by decide +kernel
theorem dX12_skip_146 : decode cX12_skip 146 = .ok (.istore_n 3, 1) := by decide +kernel
theorem dX12_skip_147 : decode cX12_skip 147 = .ok (.goto (-38), 3) := by decide +kernel
theorem dX12_skip_130 : decode cX12_skip 130 = .ok (.aload_n 0, 1) := by decide +kernel
theorem dX12_skip_131 : decode cX12_skip 131 = .ok (.getfield 187, 3) := by decide +kernel
theorem dX12_skip_134 : decode cX12_skip 134 = .ok (.iload_n 3, 1) := by decide +kernel
theorem dX12_skip_135 : decode cX12_skip 135 = .ok (.iconst 1, 1) := by decide +kernel
theorem dX12_skip_136 : decode cX12_skip 136 = .ok (.iadd, 1) := by decide +kernel
theorem dX12_skip_137 : decode cX12_skip 137 = .ok (.iaload, 1) := by decide +kernel
theorem dX12_skip_138 : decode cX12_skip 138 = .ok (.bipush 47, 2) := by decide +kernel
theorem dX12_skip_140 : decode cX12_skip 140 = .ok (.if_icmp .eq 10, 3) := by decide +kernel
theorem dX12_skip_2 : decode cX12_skip 2 = .ok (.iload_n 1, 1) := by decide +kernel
theorem dX12_skip_3 : decode cX12_skip 3 = .ok (.ifCond .eq 174, 3) := by decide +kernel
theorem dX12_skip_177 : decode cX12_skip 177 = .ok (.iconst 1, 1) := by decide +kernel
theorem dX12_skip_178 : decode cX12_skip 178 = .ok (.ireturn, 1) := by decide +kernel
theorem dX12_skip_6 : decode cX12_skip 6 = .ok (.aload_n 0, 1) := by decide +kernel
theorem dX12_skip_7 : decode cX12_skip 7 = .ok (.iconst 0, 1) := by decide +kernel
theorem dX12_skip_8 : decode cX12_skip 8 = .ok (.invokevirtual 190, 3) := by decide +kernel
theorem dX12_skip_11 : decode cX12_skip 11 = .ok (.istore_n 2, 1) := by decide +kernel
theorem dX12_skip_12 : decode cX12_skip 12 = .ok (.iload_n 2, 1) := by decide +kernel
theorem dX12_skip_13 : decode cX12_skip 13 = .ok (.bipush 9, 2) := by decide +kernel
theorem dX12_skip_15 : decode cX12_skip 15 = .ok (.if_icmp .eq 21, 3) := by decide +kernel
theorem dX12_skip_18 : decode cX12_skip 18 = .ok (.iload_n 2, 1) := by decide +kernel
theorem dX12_skip_19 : decode cX12_skip 19 = .ok (.bipush 10, 2) := by decide +kernel
theorem dX12_skip_21 : decode cX12_skip 21 = .ok (.if_icmp .eq 15, 3) := by decide +kernel
theorem dX12_skip_24 : decode cX12_skip 24 = .ok (.iload_n 2, 1) := by decide +kernel
theorem dX12_skip_25 : decode cX12_skip 25 = .ok (.bipush 13, 2) := by decide +kernel
theorem dX12_skip_27 : decode cX12_skip 27 = .ok (.if_icmp .eq 9, 3) := by decide +kernel
theorem dX12_skip_30 : decode cX12_skip 30 = .ok (.iload_n 2, 1) := by decide +kernel
theorem dX12_skip_31 : decode cX12_skip 31 = .ok (.bipush 32, 2) := by decide +kernel
theorem dX12_skip_33 : decode cX12_skip 33 = .ok (.if_icmp .ne 16, 3) := by decide +kernel
theorem dX12_skip_49 : decode cX12_skip 49 = .ok (.iload_n 2, 1) := by decide +kernel
theorem dX12_skip_50 : decode cX12_skip 50 = .ok (.bipush 35, 2) := by decide +kernel
theorem dX12_skip_52 : decode cX12_skip 52 = .ok (.if_icmp .ne 34, 3) := by decide +kernel
theorem dX12_skip_86 : decode cX12_skip 86 = .ok (.iload_n 2, 1) := by decide +kernel
theorem dX12_skip_87 : decode cX12_skip 87 = .ok (.bipush 47, 2) := by decide +kernel
theorem dX12_skip_89 : decode cX12_skip 89 = .ok (.if_icmp .ne 83, 3) := by decide +kernel
theorem dX12_skip_172 : decode cX12_skip 172 = .ok (.iconst 0, 1) := by decide +kernel
theorem dX12_skip_173 : decode cX12_skip 173 = .ok (.istore_n 1, 1) := by decide +kernel
theorem dX12_skip_92 : decode cX12_skip 92 = .ok (.aload_n 0, 1) := by decide +kernel
theorem dX12_skip_93 : decode cX12_skip 93 = .ok (.iconst 1, 1) := by decide +kernel
theorem dX12_skip_94 : decode cX12_skip 94 = .ok (.invokevirtual 190, 3) := by decide +kernel
theorem dX12_skip_97 : decode cX12_skip 97 = .ok (.bipush 42, 2) := by decide +kernel
theorem dX12_skip_99 : decode cX12_skip 99 = .ok (.if_icmp .ne 73, 3) := by decide +kernel
theorem dX12_skip_102 : decode cX12_skip 102 = .ok (.aload_n 0, 1) := by decide +kernel
theorem dX12_skip_103 : decode cX12_skip 103 = .ok (.getfield 181, 3) := by decide +kernel
theorem dX12_skip_106 : decode cX12_skip 106 = .ok (.iconst 2, 1) := by decide +kernel
theorem dX12_skip_107 : decode cX12_skip 107 = .ok (.iadd, 1) := by decide +kernel
theorem dX12_skip_108 : decode cX12_skip 108 = .ok (.istore_n 3, 1) := by decide +kernel
theorem dX12_skip_0 : decode cX12_skip 0 = .ok (.iconst 1, 1) := by decide +kernel
theorem dX12_skip_1 : decode cX12_skip 1 = .ok (.istore_n 1, 1) := by decide +kernel
def fb_X12_skip_36 (K2 : Bool → uS → Option (uS × Bool)) (b1 : Bool) (s : uS) : Option (uS × Bool) := K2 b1 (wI s 1079 30 ((s.I 1079 30) + 1))
set_option maxRecDepth 100000 in
set_option maxHeartbeats 4000000 in
theorem xb_X12_skip_36 {l : Launch} {D : va_G} {A : Nat → ClassId} {B : Nat} {Z : State → Heap → Prop} {vF : Value} (uk : uK B Z vF) {K2 : Bool → uS → Option (uS × Bool)} (hK2 : ∀ (b1 : Bool)  (s : uS) (r : (uS × Bool)), K2 b1 s = some r → GU l D A B Z mX12_skip 1 (r.1, some (.int (bI r.2))) s 2 [(0, .ref (B + 1079)), (1, .int (bI b1))] []) {b1 : Bool} {s : uS} {r : (uS × Bool)}  (h : fb_X12_skip_36 K2 b1 s = some r) : GU l D A B Z mX12_skip 1 (r.1, some (.int (bI r.2))) s 36 [(0, .ref (B + 1079)), (1, .int (bI b1))] [] := by
  unfold fb_X12_skip_36 at h
  refine uu_aload_n dX12_skip_36 rfl (List.mem_of_getElem? (i := 0) rfl) ?_
  refine uu_aload_n dX12_skip_37 rfl (List.mem_of_getElem? (i := 0) rfl) ?_
  refine uu_geti (ci := 12) (N := 153) fX12_181 (by decide) so_1079.is (by decide) (by decide) dX12_skip_38 ?_
  refine uu_iconst (v := 1) dX12_skip_41 (by decide) ?_
  refine uu_iadd dX12_skip_42 ?_
  refine uu_puti (ft := .int) (ci := 12) (N := 153) fX12_181 ptX12 (Or.inl rfl) (by decide) so_1079.is (by decide) (by decide) (by decide +kernel) rfl rfl dX12_skip_43 ?_
  refine uu_goto (tgt := 174) dX12_skip_46 (by decide) ?_
  refine uu_goto (tgt := 2) dX12_skip_174 (by decide) ?_
  exact hK2 b1 _ _ h
def fb_X12_skip_55 (K2 : Bool → uS → Option (uS × Bool)) (K55 : Bool → uS → Option (uS × Bool)) (b1 : Bool) (s : uS) : Option (uS × Bool) := (fn_X12_peek 0 s).bind fun v1 => if v1 < 0 then (K2 b1 s) else ((fn_X12_peek 0 s).bind fun v4 => if v4 = 10 then (K2 b1 s) else (K55 b1 (wI s 1079 30 ((s.I 1079 30) + 1))))
set_option maxRecDepth 100000 in
set_option maxHeartbeats 4000000 in
theorem xb_X12_skip_55 {l : Launch} {D : va_G} {A : Nat → ClassId} {B : Nat} {Z : State → Heap → Prop} {vF : Value} (uk : uK B Z vF) {K2 : Bool → uS → Option (uS × Bool)} {K55 : Bool → uS → Option (uS × Bool)} (hK2 : ∀ (b1 : Bool)  (s : uS) (r : (uS × Bool)), K2 b1 s = some r → GU l D A B Z mX12_skip 1 (r.1, some (.int (bI r.2))) s 2 [(0, .ref (B + 1079)), (1, .int (bI b1))] []) (hK55 : ∀ (b1 : Bool)  (s : uS) (r : (uS × Bool)), K55 b1 s = some r → GU l D A B Z mX12_skip 1 (r.1, some (.int (bI r.2))) s 55 [(0, .ref (B + 1079)), (1, .int (bI b1))] []) {b1 : Bool} {s : uS} {r : (uS × Bool)}  (h : fb_X12_skip_55 K2 K55 b1 s = some r) : GU l D A B Z mX12_skip 1 (r.1, some (.int (bI r.2))) s 55 [(0, .ref (B + 1079)), (1, .int (bI b1))] [] := by
  unfold fb_X12_skip_55 at h
  refine uu_aload_n dX12_skip_55 rfl (List.mem_of_getElem? (i := 0) rfl) ?_
  refine uu_iconst (v := 0) dX12_skip_56 (by decide) ?_
  obtain ⟨v1, e2, h⟩ := uu_ob h
  refine uu_cv (d1 := 0) (k := 1079) (ci := 12) (T := TX12) (N := 153) (As := [.int 0]) (st := []) (st' := [.int v1]) (xc_X12_peek uk  e2) so_1079.is (by decide) rfl kX12_peek lX12_190 sX12_peek (by decide) (Nat.le_of_ble_eq_true rfl) dX12_skip_57 rfl ?_
  refine uu_if_lt (tgt := 174) dX12_skip_60 (by decide) (fun c3 => ?_) (fun c3 => ?_)
  · replace h := uu_pos c3 h
    refine uu_goto (tgt := 2) dX12_skip_174 (by decide) ?_
    exact hK2 b1 _ _ h
  · replace h := uu_neg c3 h
    refine uu_aload_n dX12_skip_63 rfl (List.mem_of_getElem? (i := 0) rfl) ?_
    refine uu_iconst (v := 0) dX12_skip_64 (by decide) ?_
    obtain ⟨v4, e5, h⟩ := uu_ob h
    refine uu_cv (d1 := 0) (k := 1079) (ci := 12) (T := TX12) (N := 153) (As := [.int 0]) (st := []) (st' := [.int v4]) (xc_X12_peek uk  e5) so_1079.is (by decide) rfl kX12_peek lX12_190 sX12_peek (by decide) (Nat.le_of_ble_eq_true rfl) dX12_skip_65 rfl ?_
    refine uu_bipush (v := 10) dX12_skip_68 (by decide) ?_
    refine uu_icmp_eq (tgt := 174) dX12_skip_70 (by decide) (fun c6 => ?_) (fun c6 => ?_)
    · replace h := uu_pos c6 h
      refine uu_goto (tgt := 2) dX12_skip_174 (by decide) ?_
      exact hK2 b1 _ _ h
    · replace h := uu_neg c6 h
      refine uu_aload_n dX12_skip_73 rfl (List.mem_of_getElem? (i := 0) rfl) ?_
      refine uu_aload_n dX12_skip_74 rfl (List.mem_of_getElem? (i := 0) rfl) ?_
      refine uu_geti (ci := 12) (N := 153) fX12_181 (by decide) so_1079.is (by decide) (by decide) dX12_skip_75 ?_
      refine uu_iconst (v := 1) dX12_skip_78 (by decide) ?_
      refine uu_iadd dX12_skip_79 ?_
      refine uu_puti (ft := .int) (ci := 12) (N := 153) fX12_181 ptX12 (Or.inl rfl) (by decide) so_1079.is (by decide) (by decide) (by decide +kernel) rfl rfl dX12_skip_80 ?_
      refine uu_goto (tgt := 55) dX12_skip_83 (by decide) ?_
      exact hK55 b1 _ _ h
def fn_X12_skip_55 (K2 : Bool → uS → Option (uS × Bool)) : Nat → Bool → uS → Option (uS × Bool)
  | 0 => fun _ _ => none
  | n + 1 => fb_X12_skip_55 K2 (fn_X12_skip_55 K2 n)
set_option maxRecDepth 100000 in
set_option maxHeartbeats 4000000 in
theorem xn_X12_skip_55 {l : Launch} {D : va_G} {A : Nat → ClassId} {B : Nat} {Z : State → Heap → Prop} {vF : Value} (uk : uK B Z vF) {K2 : Bool → uS → Option (uS × Bool)} (hK2 : ∀ (b1 : Bool)  (s : uS) (r : (uS × Bool)), K2 b1 s = some r → GU l D A B Z mX12_skip 1 (r.1, some (.int (bI r.2))) s 2 [(0, .ref (B + 1079)), (1, .int (bI b1))] []) : ∀ (n : Nat) (b1 : Bool)  (s : uS) (r : (uS × Bool)), fn_X12_skip_55 K2 n b1 s = some r → GU l D A B Z mX12_skip 1 (r.1, some (.int (bI r.2))) s 55 [(0, .ref (B + 1079)), (1, .int (bI b1))] [] := by
  intro n
  induction n with
  | zero => intro b1 s r h
            cases h
  | succ n ih => intro b1 s r h
                 exact xb_X12_skip_55 uk hK2 ih  h
def fb_X12_skip_150 (K2 : Bool → uS → Option (uS × Bool)) (b1 : Bool) (x3 : Int32) (s : uS) : Option (uS × Bool) := if (x3 + 1) < (s.I 1079 29) then (K2 b1 (wI s 1079 30 (x3 + 2))) else (some (s, false))
set_option maxRecDepth 100000 in
set_option maxHeartbeats 4000000 in
theorem xb_X12_skip_150 {l : Launch} {D : va_G} {A : Nat → ClassId} {B : Nat} {Z : State → Heap → Prop} {vF : Value} (uk : uK B Z vF) {K2 : Bool → uS → Option (uS × Bool)} (hK2 : ∀ (b1 : Bool)  (s : uS) (r : (uS × Bool)), K2 b1 s = some r → GU l D A B Z mX12_skip 1 (r.1, some (.int (bI r.2))) s 2 [(0, .ref (B + 1079)), (1, .int (bI b1))] []) {b1 : Bool} {x3 : Int32} {s : uS} {r : (uS × Bool)}  (h : fb_X12_skip_150 K2 b1 x3 s = some r) : GU l D A B Z mX12_skip 1 (r.1, some (.int (bI r.2))) s 150 [(0, .ref (B + 1079)), (1, .int (bI b1)), (3, .int x3)] [] := by
  unfold fb_X12_skip_150 at h
  refine uu_iload_n dX12_skip_150 rfl (List.mem_of_getElem? (i := 2) rfl) ?_
  refine uu_iconst (v := 1) dX12_skip_151 (by decide) ?_
  refine uu_iadd dX12_skip_152 ?_
  refine uu_aload_n dX12_skip_153 rfl (List.mem_of_getElem? (i := 0) rfl) ?_
  refine uu_geti (ci := 12) (N := 153) fX12_184 (by decide) so_1079.is (by decide) (by decide) dX12_skip_154 ?_
  refine uu_icmp_lt (tgt := 162) dX12_skip_157 (by decide) (fun c1 => ?_) (fun c1 => ?_)
  · replace h := uu_pos c1 h
    refine uu_aload_n dX12_skip_162 rfl (List.mem_of_getElem? (i := 0) rfl) ?_
    refine uu_iload_n dX12_skip_163 rfl (List.mem_of_getElem? (i := 2) rfl) ?_
    refine uu_iconst (v := 2) dX12_skip_164 (by decide) ?_
    refine uu_iadd dX12_skip_165 ?_
    refine uu_puti (ft := .int) (ci := 12) (N := 153) fX12_181 ptX12 (Or.inl rfl) (by decide) so_1079.is (by decide) (by decide) (by decide +kernel) rfl rfl dX12_skip_166 ?_
    refine uu_goto (tgt := 174) dX12_skip_169 (by decide) ?_
    refine uu_goto (tgt := 2) dX12_skip_174 (by decide) ?_
    refine uu_lv [0, 1] (lv' := [(0, .ref (B + 1079)), (1, .int (bI b1))]) rfl ?_
    exact hK2 b1 _ _ h
  · replace h := uu_neg c1 h
    refine uu_iconst (v := 0) dX12_skip_160 (by decide) ?_
    have hr := Option.some.inj h
    subst hr
    exact uu_zret (x := bI false) rfl (bI_z _) dX12_skip_161
def fb_X12_skip_109 (K2 : Bool → uS → Option (uS × Bool)) (K109 : Bool → Int32 → uS → Option (uS × Bool)) (b1 : Bool) (x3 : Int32) (s : uS) : Option (uS × Bool) := if (s.I 1079 29) ≤ (x3 + 1) then (fb_X12_skip_150 K2 b1 x3 s) else ((iget 20 s 1096 x3).bind fun v2 => if v2 = 42 then ((iget 20 s 1096 (x3 + 1)).bind fun v5 => if v5 = 47 then (fb_X12_skip_150 K2 b1 x3 s) else (K109 b1 (x3 + 1) s)) else (K109 b1 (x3 + 1) s))
set_option maxRecDepth 100000 in
set_option maxHeartbeats 4000000 in
theorem xb_X12_skip_109 {l : Launch} {D : va_G} {A : Nat → ClassId} {B : Nat} {Z : State → Heap → Prop} {vF : Value} (uk : uK B Z vF) {K2 : Bool → uS → Option (uS × Bool)} {K109 : Bool → Int32 → uS → Option (uS × Bool)} (hK2 : ∀ (b1 : Bool)  (s : uS) (r : (uS × Bool)), K2 b1 s = some r → GU l D A B Z mX12_skip 1 (r.1, some (.int (bI r.2))) s 2 [(0, .ref (B + 1079)), (1, .int (bI b1))] []) (hK109 : ∀ (b1 : Bool) (x3 : Int32)  (s : uS) (r : (uS × Bool)), K109 b1 x3 s = some r → GU l D A B Z mX12_skip 1 (r.1, some (.int (bI r.2))) s 109 [(0, .ref (B + 1079)), (1, .int (bI b1)), (3, .int x3)] []) {b1 : Bool} {x3 : Int32} {s : uS} {r : (uS × Bool)}  (h : fb_X12_skip_109 K2 K109 b1 x3 s = some r) : GU l D A B Z mX12_skip 1 (r.1, some (.int (bI r.2))) s 109 [(0, .ref (B + 1079)), (1, .int (bI b1)), (3, .int x3)] [] := by
  unfold fb_X12_skip_109 at h
  refine uu_iload_n dX12_skip_109 rfl (List.mem_of_getElem? (i := 2) rfl) ?_
  refine uu_iconst (v := 1) dX12_skip_110 (by decide) ?_
  refine uu_iadd dX12_skip_111 ?_
  refine uu_aload_n dX12_skip_112 rfl (List.mem_of_getElem? (i := 0) rfl) ?_
  refine uu_geti (ci := 12) (N := 153) fX12_184 (by decide) so_1079.is (by decide) (by decide) dX12_skip_113 ?_
  refine uu_icmp_ge (tgt := 150) dX12_skip_116 (by decide) (fun c1 => ?_) (fun c1 => ?_)
  · replace h := uu_pos c1 h
    exact xb_X12_skip_150 uk hK2 h
  · replace h := uu_neg c1 h
    refine uu_aload_n dX12_skip_119 rfl (List.mem_of_getElem? (i := 0) rfl) ?_
    refine uu_geta (ci := 12) (N := 153) fX12_187 (by decide) so_1079.is (by decide) (c := 1096) (by decide) dX12_skip_120 ?_
    refine uu_iload_n dX12_skip_123 rfl (List.mem_of_getElem? (i := 2) rfl) ?_
    obtain ⟨v2, e3, h⟩ := uu_ob h
    refine uu_iald e3 dX12_skip_124 ?_
    refine uu_bipush (v := 42) dX12_skip_125 (by decide) ?_
    refine uu_icmp_ne (tgt := 143) dX12_skip_127 (by decide) (fun c4 => ?_) (fun c4 => ?_)
    · replace h := uu_neg c4 h
      refine uu_iload_n dX12_skip_143 rfl (List.mem_of_getElem? (i := 2) rfl) ?_
      refine uu_iconst (v := 1) dX12_skip_144 (by decide) ?_
      refine uu_iadd dX12_skip_145 ?_
      refine uu_istore_n dX12_skip_146 rfl (by decide) rfl ?_
      refine uu_goto (tgt := 109) dX12_skip_147 (by decide) ?_
      refine uu_lv [1, 2, 0] (lv' := [(0, .ref (B + 1079)), (1, .int (bI b1)), (3, .int (x3 + 1))]) rfl ?_
      exact hK109 b1 (x3 + 1) _ _ h
    · replace h := uu_pos c4 h
      refine uu_aload_n dX12_skip_130 rfl (List.mem_of_getElem? (i := 0) rfl) ?_
      refine uu_geta (ci := 12) (N := 153) fX12_187 (by decide) so_1079.is (by decide) (c := 1096) (by decide) dX12_skip_131 ?_
      refine uu_iload_n dX12_skip_134 rfl (List.mem_of_getElem? (i := 2) rfl) ?_
      refine uu_iconst (v := 1) dX12_skip_135 (by decide) ?_
      refine uu_iadd dX12_skip_136 ?_
      obtain ⟨v5, e6, h⟩ := uu_ob h
      refine uu_iald e6 dX12_skip_137 ?_
      refine uu_bipush (v := 47) dX12_skip_138 (by decide) ?_
      refine uu_icmp_eq (tgt := 150) dX12_skip_140 (by decide) (fun c7 => ?_) (fun c7 => ?_)
      · replace h := uu_pos c7 h
        exact xb_X12_skip_150 uk hK2 h
      · replace h := uu_neg c7 h
        refine uu_iload_n dX12_skip_143 rfl (List.mem_of_getElem? (i := 2) rfl) ?_
        refine uu_iconst (v := 1) dX12_skip_144 (by decide) ?_
        refine uu_iadd dX12_skip_145 ?_
        refine uu_istore_n dX12_skip_146 rfl (by decide) rfl ?_
        refine uu_goto (tgt := 109) dX12_skip_147 (by decide) ?_
        refine uu_lv [1, 2, 0] (lv' := [(0, .ref (B + 1079)), (1, .int (bI b1)), (3, .int (x3 + 1))]) rfl ?_
        exact hK109 b1 (x3 + 1) _ _ h
def fn_X12_skip_109 (K2 : Bool → uS → Option (uS × Bool)) : Nat → Bool → Int32 → uS → Option (uS × Bool)
  | 0 => fun _ _ _ => none
  | n + 1 => fb_X12_skip_109 K2 (fn_X12_skip_109 K2 n)
set_option maxRecDepth 100000 in
set_option maxHeartbeats 4000000 in
theorem xn_X12_skip_109 {l : Launch} {D : va_G} {A : Nat → ClassId} {B : Nat} {Z : State → Heap → Prop} {vF : Value} (uk : uK B Z vF) {K2 : Bool → uS → Option (uS × Bool)} (hK2 : ∀ (b1 : Bool)  (s : uS) (r : (uS × Bool)), K2 b1 s = some r → GU l D A B Z mX12_skip 1 (r.1, some (.int (bI r.2))) s 2 [(0, .ref (B + 1079)), (1, .int (bI b1))] []) : ∀ (n : Nat) (b1 : Bool) (x3 : Int32)  (s : uS) (r : (uS × Bool)), fn_X12_skip_109 K2 n b1 x3 s = some r → GU l D A B Z mX12_skip 1 (r.1, some (.int (bI r.2))) s 109 [(0, .ref (B + 1079)), (1, .int (bI b1)), (3, .int x3)] [] := by
  intro n
  induction n with
  | zero => intro b1 x3 s r h
            cases h
  | succ n ih => intro b1 x3 s r h
                 exact xb_X12_skip_109 uk hK2 ih  h
def fb_X12_skip_2 (K2 : Bool → uS → Option (uS × Bool)) (b1 : Bool) (s : uS) : Option (uS × Bool) := if b1 = true then ((fn_X12_peek 0 s).bind fun v2 => if v2 = 9 then (fb_X12_skip_36 K2 b1 s) else (if v2 = 10 then (fb_X12_skip_36 K2 b1 s) else (if v2 = 13 then (fb_X12_skip_36 K2 b1 s) else (if v2 = 32 then (fb_X12_skip_36 K2 b1 s) else (if v2 = 35 then (fn_X12_skip_55 K2 uFu b1 s) else (if v2 = 47 then ((fn_X12_peek 1 s).bind fun v10 => if v10 = 42 then (fn_X12_skip_109 K2 uFu b1 ((s.I 1079 30) + 2) s) else (K2 false s)) else (K2 false s))))))) else (some (s, true))
set_option maxRecDepth 100000 in
set_option maxHeartbeats 4000000 in
theorem xb_X12_skip_2 {l : Launch} {D : va_G} {A : Nat → ClassId} {B : Nat} {Z : State → Heap → Prop} {vF : Value} (uk : uK B Z vF) {K2 : Bool → uS → Option (uS × Bool)} (hK2 : ∀ (b1 : Bool)  (s : uS) (r : (uS × Bool)), K2 b1 s = some r → GU l D A B Z mX12_skip 1 (r.1, some (.int (bI r.2))) s 2 [(0, .ref (B + 1079)), (1, .int (bI b1))] []) {b1 : Bool} {s : uS} {r : (uS × Bool)}  (h : fb_X12_skip_2 K2 b1 s = some r) : GU l D A B Z mX12_skip 1 (r.1, some (.int (bI r.2))) s 2 [(0, .ref (B + 1079)), (1, .int (bI b1))] [] := by
  unfold fb_X12_skip_2 at h
  refine uu_iload_n dX12_skip_2 rfl (List.mem_of_getElem? (i := 1) rfl) ?_
  refine uu_ifb_eq (tgt := 177) dX12_skip_3 (by decide) (fun c1 => ?_) (fun c1 => ?_)
  · replace h := uu_neg c1 h
    refine uu_iconst (v := 1) dX12_skip_177 (by decide) ?_
    have hr := Option.some.inj h
    subst hr
    exact uu_zret (x := bI true) rfl (bI_z _) dX12_skip_178
  · replace h := uu_pos c1 h
    refine uu_aload_n dX12_skip_6 rfl (List.mem_of_getElem? (i := 0) rfl) ?_
    refine uu_iconst (v := 0) dX12_skip_7 (by decide) ?_
    obtain ⟨v2, e3, h⟩ := uu_ob h
    refine uu_cv (d1 := 0) (k := 1079) (ci := 12) (T := TX12) (N := 153) (As := [.int 0]) (st := []) (st' := [.int v2]) (xc_X12_peek uk  e3) so_1079.is (by decide) rfl kX12_peek lX12_190 sX12_peek (by decide) (Nat.le_of_ble_eq_true rfl) dX12_skip_8 rfl ?_
    refine uu_istore_n dX12_skip_11 rfl (by decide) rfl ?_
    refine uu_iload_n dX12_skip_12 rfl (List.mem_of_getElem? (i := 0) rfl) ?_
    refine uu_bipush (v := 9) dX12_skip_13 (by decide) ?_
    refine uu_icmp_eq (tgt := 36) dX12_skip_15 (by decide) (fun c4 => ?_) (fun c4 => ?_)
    · replace h := uu_pos c4 h
      refine uu_lv [1, 2] (lv' := [(0, .ref (B + 1079)), (1, .int (bI b1))]) rfl ?_
      exact xb_X12_skip_36 uk hK2 h
    · replace h := uu_neg c4 h
      refine uu_iload_n dX12_skip_18 rfl (List.mem_of_getElem? (i := 0) rfl) ?_
      refine uu_bipush (v := 10) dX12_skip_19 (by decide) ?_
      refine uu_icmp_eq (tgt := 36) dX12_skip_21 (by decide) (fun c5 => ?_) (fun c5 => ?_)
      · replace h := uu_pos c5 h
        refine uu_lv [1, 2] (lv' := [(0, .ref (B + 1079)), (1, .int (bI b1))]) rfl ?_
        exact xb_X12_skip_36 uk hK2 h
      · replace h := uu_neg c5 h
        refine uu_iload_n dX12_skip_24 rfl (List.mem_of_getElem? (i := 0) rfl) ?_
        refine uu_bipush (v := 13) dX12_skip_25 (by decide) ?_
        refine uu_icmp_eq (tgt := 36) dX12_skip_27 (by decide) (fun c6 => ?_) (fun c6 => ?_)
        · replace h := uu_pos c6 h
          refine uu_lv [1, 2] (lv' := [(0, .ref (B + 1079)), (1, .int (bI b1))]) rfl ?_
          exact xb_X12_skip_36 uk hK2 h
        · replace h := uu_neg c6 h
          refine uu_iload_n dX12_skip_30 rfl (List.mem_of_getElem? (i := 0) rfl) ?_
          refine uu_bipush (v := 32) dX12_skip_31 (by decide) ?_
          refine uu_icmp_ne (tgt := 49) dX12_skip_33 (by decide) (fun c7 => ?_) (fun c7 => ?_)
          · replace h := uu_neg c7 h
            refine uu_iload_n dX12_skip_49 rfl (List.mem_of_getElem? (i := 0) rfl) ?_
            refine uu_bipush (v := 35) dX12_skip_50 (by decide) ?_
            refine uu_icmp_ne (tgt := 86) dX12_skip_52 (by decide) (fun c8 => ?_) (fun c8 => ?_)
            · replace h := uu_neg c8 h
              refine uu_iload_n dX12_skip_86 rfl (List.mem_of_getElem? (i := 0) rfl) ?_
              refine uu_bipush (v := 47) dX12_skip_87 (by decide) ?_
              refine uu_icmp_ne (tgt := 172) dX12_skip_89 (by decide) (fun c9 => ?_) (fun c9 => ?_)
              · replace h := uu_neg c9 h
                refine uu_iconst (v := 0) dX12_skip_172 (by decide) ?_
                refine uu_istore_n dX12_skip_173 rfl (by decide) rfl ?_
                refine uu_goto (tgt := 2) dX12_skip_174 (by decide) ?_
                refine uu_lv [2, 0] (lv' := [(0, .ref (B + 1079)), (1, .int 0)]) rfl ?_
                exact hK2 false _ _ h
              · replace h := uu_pos c9 h
                refine uu_aload_n dX12_skip_92 rfl (List.mem_of_getElem? (i := 1) rfl) ?_
                refine uu_iconst (v := 1) dX12_skip_93 (by decide) ?_
                obtain ⟨v10, e11, h⟩ := uu_ob h
                refine uu_cv (d1 := 0) (k := 1079) (ci := 12) (T := TX12) (N := 153) (As := [.int 1]) (st := []) (st' := [.int v10]) (xc_X12_peek uk  e11) so_1079.is (by decide) rfl kX12_peek lX12_190 sX12_peek (by decide) (Nat.le_of_ble_eq_true rfl) dX12_skip_94 rfl ?_
                refine uu_bipush (v := 42) dX12_skip_97 (by decide) ?_
                refine uu_icmp_ne (tgt := 172) dX12_skip_99 (by decide) (fun c12 => ?_) (fun c12 => ?_)
                · replace h := uu_neg c12 h
                  refine uu_iconst (v := 0) dX12_skip_172 (by decide) ?_
                  refine uu_istore_n dX12_skip_173 rfl (by decide) rfl ?_
                  refine uu_goto (tgt := 2) dX12_skip_174 (by decide) ?_
                  refine uu_lv [2, 0] (lv' := [(0, .ref (B + 1079)), (1, .int 0)]) rfl ?_
                  exact hK2 false _ _ h
                · replace h := uu_pos c12 h
                  refine uu_aload_n dX12_skip_102 rfl (List.mem_of_getElem? (i := 1) rfl) ?_
                  refine uu_geti (ci := 12) (N := 153) fX12_181 (by decide) so_1079.is (by decide) (by decide) dX12_skip_103 ?_
                  refine uu_iconst (v := 2) dX12_skip_106 (by decide) ?_
                  refine uu_iadd dX12_skip_107 ?_
                  refine uu_istore_n dX12_skip_108 rfl (by decide) rfl ?_
                  refine uu_lv [2, 3, 0] (lv' := [(0, .ref (B + 1079)), (1, .int (bI b1)), (3, .int ((s.I 1079 30) + 2))]) rfl ?_
                  exact xn_X12_skip_109 uk hK2 _ _ _ _ _ h
            · replace h := uu_pos c8 h
              refine uu_lv [1, 2] (lv' := [(0, .ref (B + 1079)), (1, .int (bI b1))]) rfl ?_
              exact xn_X12_skip_55 uk hK2 _ _ _ _ h
          · replace h := uu_pos c7 h
            refine uu_lv [1, 2] (lv' := [(0, .ref (B + 1079)), (1, .int (bI b1))]) rfl ?_
            exact xb_X12_skip_36 uk hK2 h
def fn_X12_skip_2  : Nat → Bool → uS → Option (uS × Bool)
  | 0 => fun _ _ => none
  | n + 1 => fb_X12_skip_2 (fn_X12_skip_2  n)
set_option maxRecDepth 100000 in
set_option maxHeartbeats 4000000 in
theorem xn_X12_skip_2 {l : Launch} {D : va_G} {A : Nat → ClassId} {B : Nat} {Z : State → Heap → Prop} {vF : Value} (uk : uK B Z vF)   : ∀ (n : Nat) (b1 : Bool)  (s : uS) (r : (uS × Bool)), fn_X12_skip_2  n b1 s = some r → GU l D A B Z mX12_skip 1 (r.1, some (.int (bI r.2))) s 2 [(0, .ref (B + 1079)), (1, .int (bI b1))] [] := by
  intro n
  induction n with
  | zero => intro b1 s r h
            cases h
  | succ n ih => intro b1 s r h
                 exact xb_X12_skip_2 uk ih  h
def fn_X12_skip  (s : uS) : Option (uS × Bool) := fn_X12_skip_2 uFu true s
set_option maxRecDepth 100000 in
set_option maxHeartbeats 4000000 in
theorem xc_X12_skip {l : Launch} {D : va_G} {A : Nat → ClassId} {B : Nat} {Z : State → Heap → Prop} {vF : Value} (uk : uK B Z vF)  {s : uS} {r : (uS × Bool)}  (h : fn_X12_skip  s = some r) : CU l D A B Z 1 mX12_skip s [.ref (B + 1079)] (r.1, some (.int (bI r.2))) := by
  unfold fn_X12_skip at h
  refine cu_of rfl uk.1.1 (Nat.le_of_ble_eq_true rfl) ?_
  show GU _ _ _ _ _ _ _ _ _ 0 [(0, .ref (B + 1079))] []
  refine uu_iconst (v := 1) dX12_skip_0 (by decide) ?_
  refine uu_istore_n dX12_skip_1 rfl (by decide) rfl ?_
  refine uu_lv [1, 0] (lv' := [(0, .ref (B + 1079)), (1, .int 1)]) rfl ?_
  exact xn_X12_skip_2 uk  _ _ _ _ h
abbrev mX12_into : hM := (yX12_into, cX12_into, 3, (some (.boolean)))
theorem dX12_into_0 : decode cX12_into 0 = .ok (.aload_n 0, 1) := by decide +kernel
theorem fX12_254 : h_fl RX12 254 12 37 RX12 TX12 153 := ⟨rfl, by decide, inX12, h_t11 238 rfl rfl⟩
theorem dX12_into_1 : decode cX12_into 1 = .ok (.getfield 254, 3) := by decide +kernel
theorem dX12_into_4 : decode cX12_into 4 = .ok (.aload_n 0, 1) := by decide +kernel
theorem fX12_257 : h_fl RX12 257 12 38 RX12 TX12 153 := ⟨rfl, by decide, inX12, h_t11 239 rfl rfl⟩
theorem dX12_into_5 : decode cX12_into 5 = .ok (.getfield 257, 3) := by decide +kernel
theorem dX12_into_8 : decode cX12_into 8 = .ok (.isub, 1) := by decide +kernel
theorem dX12_into_9 : decode cX12_into 9 = .ok (.iload_n 2, 1) := by decide +kernel
theorem dX12_into_10 : decode cX12_into 10 = .ok (.if_icmp .ne 5, 3) := by decide +kernel
theorem dX12_into_15 : decode cX12_into 15 = .ok (.aload_n 0, 1) := by decide +kernel
theorem dX12_into_16 : decode cX12_into 16 = .ok (.getfield 260, 3) := by decide +kernel
theorem dX12_into_19 : decode cX12_into 19 = .ok (.aload_n 0, 1) := by decide +kernel
theorem dX12_into_20 : decode cX12_into 20 = .ok (.getfield 254, 3) := by decide +kernel
theorem dX12_into_23 : decode cX12_into 23 = .ok (.iload_n 1, 1) := by decide +kernel
theorem dX12_into_24 : decode cX12_into 24 = .ok (.iastore, 1) := by decide +kernel
theorem dX12_into_25 : decode cX12_into 25 = .ok (.aload_n 0, 1) := by decide +kernel
theorem dX12_into_26 : decode cX12_into 26 = .ok (.aload_n 0, 1) := by decide +kernel
theorem dX12_into_27 : decode cX12_into 27 = .ok (.getfield 254, 3) := by decide +kernel
theorem dX12_into_30 : decode cX12_into 30 = .ok (.iconst 1, 1) := by decide +kernel
theorem dX12_into_31 : decode cX12_into 31 = .ok (.iadd, 1) := by decide +kernel
theorem dX12_into_32 : decode cX12_into 32 = .ok (.putfield 254, 3) := by decide +kernel
theorem dX12_into_35 : decode cX12_into 35 = .ok (.iconst 1, 1) := by decide +kernel
theorem dX12_into_36 : decode cX12_into 36 = .ok (.ireturn, 1) := by decide +kernel
theorem dX12_into_13 : decode cX12_into 13 = .ok (.iconst 0, 1) := by decide +kernel
theorem dX12_into_14 : decode cX12_into 14 = .ok (.ireturn, 1) := by decide +kernel
def fn_X12_into (x1 : Int32) (x2 : Int32) (s : uS) : Option (uS × Bool) := if ((s.I 1079 37) - (s.I 1079 38)) = x2 then (some (s, false)) else ((iput 20 s 1097 (s.I 1079 37) x1).bind fun s2 => some (wI s2 1079 37 ((s2.I 1079 37) + 1), true))
set_option maxRecDepth 100000 in
set_option maxHeartbeats 4000000 in
theorem xc_X12_into {l : Launch} {D : va_G} {A : Nat → ClassId} {B : Nat} {Z : State → Heap → Prop} {vF : Value} (uk : uK B Z vF) {x1 : Int32} {x2 : Int32} {s : uS} {r : (uS × Bool)}  (h : fn_X12_into x1 x2 s = some r) : CU l D A B Z 0 mX12_into s [.ref (B + 1079), .int x1, .int x2] (r.1, some (.int (bI r.2))) := by
  unfold fn_X12_into at h
  refine cu_of rfl uk.1.1 (Nat.le_of_ble_eq_true rfl) ?_
  show GU _ _ _ _ _ _ _ _ _ 0 [(0, .ref (B + 1079)), (1, .int x1), (2, .int x2)] []
  refine uu_aload_n dX12_into_0 rfl (List.mem_of_getElem? (i := 0) rfl) ?_
  refine uu_geti (ci := 12) (N := 153) fX12_254 (by decide) so_1079.is (by decide) (by decide) dX12_into_1 ?_
  refine uu_aload_n dX12_into_4 rfl (List.mem_of_getElem? (i := 0) rfl) ?_
  refine uu_geti (ci := 12) (N := 153) fX12_257 (by decide) so_1079.is (by decide) (by decide) dX12_into_5 ?_
  refine uu_isub dX12_into_8 ?_
  refine uu_iload_n dX12_into_9 rfl (List.mem_of_getElem? (i := 2) rfl) ?_
  refine uu_icmp_ne (tgt := 15) dX12_into_10 (by decide) (fun c1 => ?_) (fun c1 => ?_)
  · replace h := uu_neg c1 h
    refine uu_aload_n dX12_into_15 rfl (List.mem_of_getElem? (i := 0) rfl) ?_
    refine uu_geta (ci := 12) (N := 153) fX12_260 (by decide) so_1079.is (by decide) (c := 1097) (by decide) dX12_into_16 ?_
    refine uu_aload_n dX12_into_19 rfl (List.mem_of_getElem? (i := 0) rfl) ?_
    refine uu_geti (ci := 12) (N := 153) fX12_254 (by decide) so_1079.is (by decide) (by decide) dX12_into_20 ?_
    refine uu_iload_n dX12_into_23 rfl (List.mem_of_getElem? (i := 1) rfl) ?_
    obtain ⟨s2, e3, h⟩ := uu_ob h
    refine uu_iast e3 dX12_into_24 ?_
    refine uu_aload_n dX12_into_25 rfl (List.mem_of_getElem? (i := 0) rfl) ?_
    refine uu_aload_n dX12_into_26 rfl (List.mem_of_getElem? (i := 0) rfl) ?_
    refine uu_geti (ci := 12) (N := 153) fX12_254 (by decide) so_1079.is (by decide) (by decide) dX12_into_27 ?_
    refine uu_iconst (v := 1) dX12_into_30 (by decide) ?_
    refine uu_iadd dX12_into_31 ?_
    refine uu_puti (ft := .int) (ci := 12) (N := 153) fX12_254 ptX12 (Or.inl rfl) (by decide) so_1079.is (by decide) (by decide) (by decide +kernel) rfl rfl dX12_into_32 ?_
    refine uu_iconst (v := 1) dX12_into_35 (by decide) ?_
    have hr := Option.some.inj h
    subst hr
    exact uu_zret (x := bI true) rfl (bI_z _) dX12_into_36
  · replace h := uu_pos c1 h
    refine uu_iconst (v := 0) dX12_into_13 (by decide) ?_
    have hr := Option.some.inj h
    subst hr
    exact uu_zret (x := bI false) rfl (bI_z _) dX12_into_14
abbrev mX12_quoted : hM := (yX12_quoted, cX12_quoted, 1, (some (.int)))
theorem dX12_quoted_48 : decode cX12_quoted 48 = .ok (.aload_n 0, 1) := by decide +kernel
theorem dX12_quoted_49 : decode cX12_quoted 49 = .ok (.iconst 0, 1) := by decide +kernel
theorem dX12_quoted_50 : decode cX12_quoted 50 = .ok (.invokevirtual 190, 3) := by decide +kernel
theorem dX12_quoted_53 : decode cX12_quoted 53 = .ok (.ifCond .lt 18, 3) := by decide +kernel
theorem dX12_quoted_71 : decode cX12_quoted 71 = .ok (.iconst 5, 1) := by decide +kernel
theorem dX12_quoted_72 : decode cX12_quoted 72 = .ok (.ireturn, 1) := by decide +kernel
theorem dX12_quoted_56 : decode cX12_quoted 56 = .ok (.aload_n 0, 1) := by decide +kernel
theorem dX12_quoted_57 : decode cX12_quoted 57 = .ok (.aload_n 0, 1) := by decide +kernel
theorem dX12_quoted_58 : decode cX12_quoted 58 = .ok (.iconst 0, 1) := by decide +kernel
theorem dX12_quoted_59 : decode cX12_quoted 59 = .ok (.invokevirtual 190, 3) := by decide +kernel
theorem dX12_quoted_62 : decode cX12_quoted 62 = .ok (.sipush 200, 3) := by decide +kernel
theorem kX12_into : h_ml mX12_into 2 := ⟨h_t8 113 rfl rfl, h_t1 16 rfl rfl, ⟨by decide, by decide, by decide +kernel⟩, by decide⟩
theorem lX12_263 : Cond.methodLink RX12 263 mX12_into.1 ∈ lw_g := h_t8 110 rfl rfl
theorem sX12_into : Cond.instanceMethod mX12_into.1 ∈ lw_g ∧ Cond.selects mX12_into.1.cls mX12_into.1 mX12_into.1 ∈ lw_g := ⟨h_t8 112 rfl rfl, h_ins 128 rfl⟩
theorem dX12_quoted_65 : decode cX12_quoted 65 = .ok (.invokevirtual 263, 3) := by decide +kernel
theorem dX12_quoted_68 : decode cX12_quoted 68 = .ok (.ifCond .ne 5, 3) := by decide +kernel
theorem dX12_quoted_73 : decode cX12_quoted 73 = .ok (.aload_n 0, 1) := by decide +kernel
theorem dX12_quoted_74 : decode cX12_quoted 74 = .ok (.aload_n 0, 1) := by decide +kernel
theorem dX12_quoted_75 : decode cX12_quoted 75 = .ok (.getfield 181, 3) := by decide +kernel
theorem dX12_quoted_78 : decode cX12_quoted 78 = .ok (.iconst 1, 1) := by decide +kernel
theorem dX12_quoted_79 : decode cX12_quoted 79 = .ok (.iadd, 1) := by decide +kernel
theorem dX12_quoted_80 : decode cX12_quoted 80 = .ok (.putfield 181, 3) := by decide +kernel
theorem dX12_quoted_83 : decode cX12_quoted 83 = .ok (.goto (-65), 3) := by decide +kernel
theorem dX12_quoted_18 : decode cX12_quoted 18 = .ok (.aload_n 0, 1) := by decide +kernel
theorem dX12_quoted_19 : decode cX12_quoted 19 = .ok (.iconst 0, 1) := by decide +kernel
theorem dX12_quoted_20 : decode cX12_quoted 20 = .ok (.invokevirtual 190, 3) := by decide +kernel
theorem dX12_quoted_23 : decode cX12_quoted 23 = .ok (.bipush 34, 2) := by decide +kernel
theorem dX12_quoted_25 : decode cX12_quoted 25 = .ok (.if_icmp .eq 61, 3) := by decide +kernel
theorem dX12_quoted_86 : decode cX12_quoted 86 = .ok (.aload_n 0, 1) := by decide +kernel
theorem dX12_quoted_87 : decode cX12_quoted 87 = .ok (.aload_n 0, 1) := by decide +kernel
theorem dX12_quoted_88 : decode cX12_quoted 88 = .ok (.getfield 181, 3) := by decide +kernel
theorem dX12_quoted_91 : decode cX12_quoted 91 = .ok (.iconst 1, 1) := by decide +kernel
theorem dX12_quoted_92 : decode cX12_quoted 92 = .ok (.iadd, 1) := by decide +kernel
theorem dX12_quoted_93 : decode cX12_quoted 93 = .ok (.putfield 181, 3) := by decide +kernel
theorem dX12_quoted_96 : decode cX12_quoted 96 = .ok (.aload_n 0, 1) := by decide +kernel
theorem dX12_quoted_97 : decode cX12_quoted 97 = .ok (.aload_n 0, 1) := by decide +kernel
theorem dX12_quoted_98 : decode cX12_quoted 98 = .ok (.getfield 254, 3) := by decide +kernel
theorem dX12_quoted_101 : decode cX12_quoted 101 = .ok (.aload_n 0, 1) := by decide +kernel
theorem dX12_quoted_102 : decode cX12_quoted 102 = .ok (.getfield 257, 3) := by decide +kernel
theorem dX12_quoted_105 : decode cX12_quoted 105 = .ok (.isub, 1) := by decide +kernel
theorem fX12_267 : h_fl RX12 267 12 39 RX12 TX12 153 := ⟨rfl, by decide, inX12, h_t12 0 rfl rfl⟩
theorem dX12_quoted_106 : decode cX12_quoted 106 = .ok (.putfield 267, 3) := by decide +kernel
theorem dX12_quoted_109 : decode cX12_quoted 109 = .ok (.iconst 4, 1) := by decide +kernel
theorem dX12_quoted_110 : decode cX12_quoted 110 = .ok (.ireturn, 1) := by decide +kernel
theorem dX12_quoted_28 : decode cX12_quoted 28 = .ok (.aload_n 0, 1) := by decide +kernel
theorem dX12_quoted_29 : decode cX12_quoted 29 = .ok (.iconst 0, 1) := by decide +kernel
theorem dX12_quoted_30 : decode cX12_quoted 30 = .ok (.invokevirtual 190, 3) := by decide +kernel
theorem dX12_quoted_33 : decode cX12_quoted 33 = .ok (.bipush 92, 2) := by decide +kernel
theorem dX12_quoted_35 : decode cX12_quoted 35 = .ok (.if_icmp .ne 13, 3) := by decide +kernel
theorem dX12_quoted_38 : decode cX12_quoted 38 = .ok (.aload_n 0, 1) := by decide +kernel
theorem dX12_quoted_39 : decode cX12_quoted 39 = .ok (.aload_n 0, 1) := by decide +kernel
theorem dX12_quoted_40 : decode cX12_quoted 40 = .ok (.getfield 181, 3) := by decide +kernel
theorem dX12_quoted_43 : decode cX12_quoted 43 = .ok (.iconst 1, 1) := by decide +kernel
theorem dX12_quoted_44 : decode cX12_quoted 44 = .ok (.iadd, 1) := by decide +kernel
theorem dX12_quoted_45 : decode cX12_quoted 45 = .ok (.putfield 181, 3) := by decide +kernel
theorem dX12_quoted_0 : decode cX12_quoted 0 = .ok (.aload_n 0, 1) := by decide +kernel
theorem dX12_quoted_1 : decode cX12_quoted 1 = .ok (.aload_n 0, 1) := by decide +kernel
theorem dX12_quoted_2 : decode cX12_quoted 2 = .ok (.getfield 181, 3) := by decide +kernel
theorem dX12_quoted_5 : decode cX12_quoted 5 = .ok (.iconst 1, 1) := by decide +kernel
theorem dX12_quoted_6 : decode cX12_quoted 6 = .ok (.iadd, 1) := by decide +kernel
theorem dX12_quoted_7 : decode cX12_quoted 7 = .ok (.putfield 181, 3) := by decide +kernel
theorem dX12_quoted_10 : decode cX12_quoted 10 = .ok (.aload_n 0, 1) := by decide +kernel
theorem dX12_quoted_11 : decode cX12_quoted 11 = .ok (.aload_n 0, 1) := by decide +kernel
theorem dX12_quoted_12 : decode cX12_quoted 12 = .ok (.getfield 254, 3) := by decide +kernel
theorem dX12_quoted_15 : decode cX12_quoted 15 = .ok (.putfield 257, 3) := by decide +kernel
def fb_X12_quoted_48 (K18 : uS → Option (uS × Int32))  (s : uS) : Option (uS × Int32) := (fn_X12_peek 0 s).bind fun v1 => if v1 < 0 then (some (s, (5 : Int32))) else ((fn_X12_peek 0 s).bind fun v4 => (fn_X12_into v4 200 s).bind fun r6 => if r6.2 = true then (K18 (wI r6.1 1079 30 ((r6.1.I 1079 30) + 1))) else (some (r6.1, (5 : Int32))))
set_option maxRecDepth 100000 in
set_option maxHeartbeats 4000000 in
theorem xb_X12_quoted_48 {l : Launch} {D : va_G} {A : Nat → ClassId} {B : Nat} {Z : State → Heap → Prop} {vF : Value} (uk : uK B Z vF) {K18 : uS → Option (uS × Int32)} (hK18 : ∀   (s : uS) (r : (uS × Int32)), K18  s = some r → GU l D A B Z mX12_quoted 1 (r.1, some (.int r.2)) s 18 [(0, .ref (B + 1079))] [])  {s : uS} {r : (uS × Int32)}  (h : fb_X12_quoted_48 K18  s = some r) : GU l D A B Z mX12_quoted 1 (r.1, some (.int r.2)) s 48 [(0, .ref (B + 1079))] [] := by
  unfold fb_X12_quoted_48 at h
  refine uu_aload_n dX12_quoted_48 rfl (List.mem_of_getElem? (i := 0) rfl) ?_
  refine uu_iconst (v := 0) dX12_quoted_49 (by decide) ?_
  obtain ⟨v1, e2, h⟩ := uu_ob h
  refine uu_cv (d1 := 0) (k := 1079) (ci := 12) (T := TX12) (N := 153) (As := [.int 0]) (st := []) (st' := [.int v1]) (xc_X12_peek uk  e2) so_1079.is (by decide) rfl kX12_peek lX12_190 sX12_peek (by decide) (Nat.le_of_ble_eq_true rfl) dX12_quoted_50 rfl ?_
  refine uu_if_lt (tgt := 71) dX12_quoted_53 (by decide) (fun c3 => ?_) (fun c3 => ?_)
  · replace h := uu_pos c3 h
    refine uu_iconst (v := 5) dX12_quoted_71 (by decide) ?_
    have hr := Option.some.inj h
    subst hr
    exact uu_iret rfl dX12_quoted_72
  · replace h := uu_neg c3 h
    refine uu_aload_n dX12_quoted_56 rfl (List.mem_of_getElem? (i := 0) rfl) ?_
    refine uu_aload_n dX12_quoted_57 rfl (List.mem_of_getElem? (i := 0) rfl) ?_
    refine uu_iconst (v := 0) dX12_quoted_58 (by decide) ?_
    obtain ⟨v4, e5, h⟩ := uu_ob h
    refine uu_cv (d1 := 0) (k := 1079) (ci := 12) (T := TX12) (N := 153) (As := [.int 0]) (st := [.ref (B + 1079)]) (st' := [.int v4, .ref (B + 1079)]) (xc_X12_peek uk  e5) so_1079.is (by decide) rfl kX12_peek lX12_190 sX12_peek (by decide) (Nat.le_of_ble_eq_true rfl) dX12_quoted_59 rfl ?_
    refine uu_sipush (v := 200) dX12_quoted_62 (by decide) ?_
    obtain ⟨r6, e7, h⟩ := uu_ob h
    refine uu_cv (d1 := 0) (k := 1079) (ci := 12) (T := TX12) (N := 153) (As := [.int v4, .int 200]) (st := []) (st' := [.int (bI r6.2)]) (xc_X12_into uk  e7) so_1079.is (by decide) rfl kX12_into lX12_263 sX12_into (by decide) (Nat.le_of_ble_eq_true rfl) dX12_quoted_65 rfl ?_
    refine uu_ifb_ne (tgt := 73) dX12_quoted_68 (by decide) (fun c8 => ?_) (fun c8 => ?_)
    · replace h := uu_pos c8 h
      refine uu_aload_n dX12_quoted_73 rfl (List.mem_of_getElem? (i := 0) rfl) ?_
      refine uu_aload_n dX12_quoted_74 rfl (List.mem_of_getElem? (i := 0) rfl) ?_
      refine uu_geti (ci := 12) (N := 153) fX12_181 (by decide) so_1079.is (by decide) (by decide) dX12_quoted_75 ?_
      refine uu_iconst (v := 1) dX12_quoted_78 (by decide) ?_
      refine uu_iadd dX12_quoted_79 ?_
      refine uu_puti (ft := .int) (ci := 12) (N := 153) fX12_181 ptX12 (Or.inl rfl) (by decide) so_1079.is (by decide) (by decide) (by decide +kernel) rfl rfl dX12_quoted_80 ?_
      refine uu_goto (tgt := 18) dX12_quoted_83 (by decide) ?_
      exact hK18  _ _ h
    · replace h := uu_neg c8 h
      refine uu_iconst (v := 5) dX12_quoted_71 (by decide) ?_
      have hr := Option.some.inj h
      subst hr
      exact uu_iret rfl dX12_quoted_72
def fb_X12_quoted_18 (K18 : uS → Option (uS × Int32))  (s : uS) : Option (uS × Int32) := (fn_X12_peek 0 s).bind fun v1 => if v1 = 34 then (some (wI (wI s 1079 30 ((s.I 1079 30) + 1)) 1079 39 (((wI s 1079 30 ((s.I 1079 30) + 1)).I 1079 37) - ((wI s 1079 30 ((s.I 1079 30) + 1)).I 1079 38)), (4 : Int32))) else ((fn_X12_peek 0 s).bind fun v4 => if v4 = 92 then (fb_X12_quoted_48 K18 (wI s 1079 30 ((s.I 1079 30) + 1))) else (fb_X12_quoted_48 K18 s))
set_option maxRecDepth 100000 in
set_option maxHeartbeats 4000000 in
theorem xb_X12_quoted_18 {l : Launch} {D : va_G} {A : Nat → ClassId} {B : Nat} {Z : State → Heap → Prop} {vF : Value} (uk : uK B Z vF) {K18 : uS → Option (uS × Int32)} (hK18 : ∀   (s : uS) (r : (uS × Int32)), K18  s = some r → GU l D A B Z mX12_quoted 1 (r.1, some (.int r.2)) s 18 [(0, .ref (B + 1079))] [])  {s : uS} {r : (uS × Int32)}  (h : fb_X12_quoted_18 K18  s = some r) : GU l D A B Z mX12_quoted 1 (r.1, some (.int r.2)) s 18 [(0, .ref (B + 1079))] [] := by
  unfold fb_X12_quoted_18 at h
  refine uu_aload_n dX12_quoted_18 rfl (List.mem_of_getElem? (i := 0) rfl) ?_
  refine uu_iconst (v := 0) dX12_quoted_19 (by decide) ?_
  obtain ⟨v1, e2, h⟩ := uu_ob h
  refine uu_cv (d1 := 0) (k := 1079) (ci := 12) (T := TX12) (N := 153) (As := [.int 0]) (st := []) (st' := [.int v1]) (xc_X12_peek uk  e2) so_1079.is (by decide) rfl kX12_peek lX12_190 sX12_peek (by decide) (Nat.le_of_ble_eq_true rfl) dX12_quoted_20 rfl ?_
  refine uu_bipush (v := 34) dX12_quoted_23 (by decide) ?_
  refine uu_icmp_eq (tgt := 86) dX12_quoted_25 (by decide) (fun c3 => ?_) (fun c3 => ?_)
  · replace h := uu_pos c3 h
    refine uu_aload_n dX12_quoted_86 rfl (List.mem_of_getElem? (i := 0) rfl) ?_
    refine uu_aload_n dX12_quoted_87 rfl (List.mem_of_getElem? (i := 0) rfl) ?_
    refine uu_geti (ci := 12) (N := 153) fX12_181 (by decide) so_1079.is (by decide) (by decide) dX12_quoted_88 ?_
    refine uu_iconst (v := 1) dX12_quoted_91 (by decide) ?_
    refine uu_iadd dX12_quoted_92 ?_
    refine uu_puti (ft := .int) (ci := 12) (N := 153) fX12_181 ptX12 (Or.inl rfl) (by decide) so_1079.is (by decide) (by decide) (by decide +kernel) rfl rfl dX12_quoted_93 ?_
    refine uu_aload_n dX12_quoted_96 rfl (List.mem_of_getElem? (i := 0) rfl) ?_
    refine uu_aload_n dX12_quoted_97 rfl (List.mem_of_getElem? (i := 0) rfl) ?_
    refine uu_geti (ci := 12) (N := 153) fX12_254 (by decide) so_1079.is (by decide) (by decide) dX12_quoted_98 ?_
    refine uu_aload_n dX12_quoted_101 rfl (List.mem_of_getElem? (i := 0) rfl) ?_
    refine uu_geti (ci := 12) (N := 153) fX12_257 (by decide) so_1079.is (by decide) (by decide) dX12_quoted_102 ?_
    refine uu_isub dX12_quoted_105 ?_
    refine uu_puti (ft := .int) (ci := 12) (N := 153) fX12_267 ptX12 (Or.inl rfl) (by decide) so_1079.is (by decide) (by decide) (by decide +kernel) rfl rfl dX12_quoted_106 ?_
    refine uu_iconst (v := 4) dX12_quoted_109 (by decide) ?_
    have hr := Option.some.inj h
    subst hr
    exact uu_iret rfl dX12_quoted_110
  · replace h := uu_neg c3 h
    refine uu_aload_n dX12_quoted_28 rfl (List.mem_of_getElem? (i := 0) rfl) ?_
    refine uu_iconst (v := 0) dX12_quoted_29 (by decide) ?_
    obtain ⟨v4, e5, h⟩ := uu_ob h
    refine uu_cv (d1 := 0) (k := 1079) (ci := 12) (T := TX12) (N := 153) (As := [.int 0]) (st := []) (st' := [.int v4]) (xc_X12_peek uk  e5) so_1079.is (by decide) rfl kX12_peek lX12_190 sX12_peek (by decide) (Nat.le_of_ble_eq_true rfl) dX12_quoted_30 rfl ?_
    refine uu_bipush (v := 92) dX12_quoted_33 (by decide) ?_
    refine uu_icmp_ne (tgt := 48) dX12_quoted_35 (by decide) (fun c6 => ?_) (fun c6 => ?_)
    · replace h := uu_neg c6 h
      exact xb_X12_quoted_48 uk hK18 h
    · replace h := uu_pos c6 h
      refine uu_aload_n dX12_quoted_38 rfl (List.mem_of_getElem? (i := 0) rfl) ?_
      refine uu_aload_n dX12_quoted_39 rfl (List.mem_of_getElem? (i := 0) rfl) ?_
      refine uu_geti (ci := 12) (N := 153) fX12_181 (by decide) so_1079.is (by decide) (by decide) dX12_quoted_40 ?_
      refine uu_iconst (v := 1) dX12_quoted_43 (by decide) ?_
      refine uu_iadd dX12_quoted_44 ?_
      refine uu_puti (ft := .int) (ci := 12) (N := 153) fX12_181 ptX12 (Or.inl rfl) (by decide) so_1079.is (by decide) (by decide) (by decide +kernel) rfl rfl dX12_quoted_45 ?_
      exact xb_X12_quoted_48 uk hK18 h
def fn_X12_quoted_18  : Nat → uS → Option (uS × Int32)
  | 0 => fun _ => none
  | n + 1 => fb_X12_quoted_18 (fn_X12_quoted_18  n)
set_option maxRecDepth 100000 in
set_option maxHeartbeats 4000000 in
theorem xn_X12_quoted_18 {l : Launch} {D : va_G} {A : Nat → ClassId} {B : Nat} {Z : State → Heap → Prop} {vF : Value} (uk : uK B Z vF)   : ∀ (n : Nat)   (s : uS) (r : (uS × Int32)), fn_X12_quoted_18  n  s = some r → GU l D A B Z mX12_quoted 1 (r.1, some (.int r.2)) s 18 [(0, .ref (B + 1079))] [] := by
  intro n
  induction n with
  | zero => intro s r h
            cases h
  | succ n ih => intro s r h
                 exact xb_X12_quoted_18 uk ih  h
def fn_X12_quoted  (s : uS) : Option (uS × Int32) := fn_X12_quoted_18 uFu (wI (wI s 1079 30 ((s.I 1079 30) + 1)) 1079 38 ((wI s 1079 30 ((s.I 1079 30) + 1)).I 1079 37))
set_option maxRecDepth 100000 in
set_option maxHeartbeats 4000000 in
theorem xc_X12_quoted {l : Launch} {D : va_G} {A : Nat → ClassId} {B : Nat} {Z : State → Heap → Prop} {vF : Value} (uk : uK B Z vF)  {s : uS} {r : (uS × Int32)}  (h : fn_X12_quoted  s = some r) : CU l D A B Z 1 mX12_quoted s [.ref (B + 1079)] (r.1, some (.int r.2)) := by
  unfold fn_X12_quoted at h
  refine cu_of rfl uk.1.1 (Nat.le_of_ble_eq_true rfl) ?_
  show GU _ _ _ _ _ _ _ _ _ 0 [(0, .ref (B + 1079))] []
  refine uu_aload_n dX12_quoted_0 rfl (List.mem_of_getElem? (i := 0) rfl) ?_
  refine uu_aload_n dX12_quoted_1 rfl (List.mem_of_getElem? (i := 0) rfl) ?_
  refine uu_geti (ci := 12) (N := 153) fX12_181 (by decide) so_1079.is (by decide) (by decide) dX12_quoted_2 ?_
  refine uu_iconst (v := 1) dX12_quoted_5 (by decide) ?_
  refine uu_iadd dX12_quoted_6 ?_
  refine uu_puti (ft := .int) (ci := 12) (N := 153) fX12_181 ptX12 (Or.inl rfl) (by decide) so_1079.is (by decide) (by decide) (by decide +kernel) rfl rfl dX12_quoted_7 ?_
  refine uu_aload_n dX12_quoted_10 rfl (List.mem_of_getElem? (i := 0) rfl) ?_
  refine uu_aload_n dX12_quoted_11 rfl (List.mem_of_getElem? (i := 0) rfl) ?_
  refine uu_geti (ci := 12) (N := 153) fX12_254 (by decide) so_1079.is (by decide) (by decide) dX12_quoted_12 ?_
  refine uu_puti (ft := .int) (ci := 12) (N := 153) fX12_257 ptX12 (Or.inl rfl) (by decide) so_1079.is (by decide) (by decide) (by decide +kernel) rfl rfl dX12_quoted_15 ?_
  exact xn_X12_quoted_18 uk  _ _ _ h
