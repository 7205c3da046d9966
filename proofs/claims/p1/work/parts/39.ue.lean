theorem dX5_refusal_0 : decode cX5_refusal 0 = .ok (.aload_n 0, 1) := by decide +kernel
theorem dX5_refusal_1 : decode cX5_refusal 1 = .ok (.ldc 38, 2) := by decide +kernel
theorem dX5_refusal_3 : decode cX5_refusal 3 = .ok (.invokevirtual 34, 3) := by decide +kernel
theorem dX5_refusal_6 : decode cX5_refusal 6 = .ok (.aload_n 0, 1) := by decide +kernel
theorem dX5_refusal_7 : decode cX5_refusal 7 = .ok (.aload_n 1, 1) := by decide +kernel
theorem dX5_refusal_8 : decode cX5_refusal 8 = .ok (.invokevirtual 34, 3) := by decide +kernel
theorem dX5_refusal_11 : decode cX5_refusal 11 = .ok (.aload_n 0, 1) := by decide +kernel
theorem dX5_refusal_12 : decode cX5_refusal 12 = .ok (.ldc 40, 2) := by decide +kernel
theorem lX5_42 : Cond.methodLink RX5 42 mX5_line.1 ∈ lw_g := h_t7 75 rfl rfl
theorem dX5_refusal_14 : decode cX5_refusal 14 = .ok (.invokevirtual 42, 3) := by decide +kernel
theorem dX5_refusal_17 : decode cX5_refusal 17 = .ok (.return_, 1) := by decide +kernel
def fn_X5_refusal (k0 : Nat) (w1 : List Nat) (s : uS) : Option uS := (fn_X5_text k0 kW_45 s).bind fun s2 => (fn_X5_text k0 w1 s2).bind fun s4 => (fn_X5_line k0 kW_46 s4).bind fun s7 => some s7
set_option maxRecDepth 100000 in
set_option maxHeartbeats 4000000 in
theorem xc_X5_refusal {l : Launch} {D : va_G} {A : Nat → ClassId} {B : Nat} {Z : State → Heap → Prop} {vF : Value} (uk : uK B Z vF) {k0 : Nat} {w1 : List Nat} {s : uS} {r : uS} (hk0 : uSo k0 5) {qw1 pw1 : Nat} (hw1 : uStr B Z qw1 pw1 w1) (h : fn_X5_refusal k0 w1 s = some r) : CU l D A B Z 6 mX5_refusal s [.ref (B + k0), .ref qw1] (r, none) := by
  unfold fn_X5_refusal at h
  refine cu_of rfl uk.1.1 (Nat.le_of_ble_eq_true rfl) ?_
  show GU _ _ _ _ _ _ _ _ _ 0 [(0, .ref (B + k0)), (1, .ref qw1)] []
  refine uu_aload_n dX5_refusal_0 rfl (List.mem_of_getElem? (i := 0) rfl) ?_
  obtain ⟨cq1, cp1, cv1, cw1⟩ := uk.2.1 45 _ rfl
  refine uu_ldcS cv1 dX5_refusal_1 ?_
  obtain ⟨s2, e3, h⟩ := uu_ob h
  refine uu_cv (d1 := 4) (k := k0) (ci := 5) (T := TX5) (N := 3) (As := [.ref cq1]) (st := []) (st' := []) (xc_X5_text uk hk0 cw1 e3) hk0.is (by decide) rfl kX5_text lX5_34 sX5_text (by decide) (Nat.le_of_ble_eq_true rfl) dX5_refusal_3 rfl ?_
  refine uu_aload_n dX5_refusal_6 rfl (List.mem_of_getElem? (i := 0) rfl) ?_
  refine uu_aload_n dX5_refusal_7 rfl (List.mem_of_getElem? (i := 1) rfl) ?_
  obtain ⟨s4, e5, h⟩ := uu_ob h
  refine uu_cv (d1 := 4) (k := k0) (ci := 5) (T := TX5) (N := 3) (As := [.ref qw1]) (st := []) (st' := []) (xc_X5_text uk hk0 hw1 e5) hk0.is (by decide) rfl kX5_text lX5_34 sX5_text (by decide) (Nat.le_of_ble_eq_true rfl) dX5_refusal_8 rfl ?_
  refine uu_aload_n dX5_refusal_11 rfl (List.mem_of_getElem? (i := 0) rfl) ?_
  obtain ⟨cq6, cp6, cv6, cw6⟩ := uk.2.1 46 _ rfl
  refine uu_ldcS cv6 dX5_refusal_12 ?_
  obtain ⟨s7, e8, h⟩ := uu_ob h
  refine uu_cv (d1 := 5) (k := k0) (ci := 5) (T := TX5) (N := 3) (As := [.ref cq6]) (st := []) (st' := []) (xc_X5_line uk hk0 cw6 e8) hk0.is (by decide) rfl kX5_line lX5_42 sX5_line (by decide) (Nat.le_of_ble_eq_true rfl) dX5_refusal_14 rfl ?_
  have hr := Option.some.inj h
  subst hr
  exact uu_vret rfl dX5_refusal_17
abbrev mX5_digits : hM := (yX5_digits, cX5_digits, 3, none)
theorem dX5_digits_18 : decode cX5_digits 18 = .ok (.aload_n 0, 1) := by decide +kernel
theorem dX5_digits_19 : decode cX5_digits 19 = .ok (.bipush 48, 2) := by decide +kernel
theorem dX5_digits_21 : decode cX5_digits 21 = .ok (.iload_n 1, 1) := by decide +kernel
theorem dX5_digits_22 : decode cX5_digits 22 = .ok (.iload_n 2, 1) := by decide +kernel
theorem dX5_digits_23 : decode cX5_digits 23 = .ok (.idiv, 1) := by decide +kernel
theorem dX5_digits_24 : decode cX5_digits 24 = .ok (.bipush 10, 2) := by decide +kernel
theorem dX5_digits_26 : decode cX5_digits 26 = .ok (.irem, 1) := by decide +kernel
theorem dX5_digits_27 : decode cX5_digits 27 = .ok (.iadd, 1) := by decide +kernel
theorem dX5_digits_28 : decode cX5_digits 28 = .ok (.invokevirtual 30, 3) := by decide +kernel
theorem dX5_digits_31 : decode cX5_digits 31 = .ok (.iload_n 2, 1) := by decide +kernel
theorem dX5_digits_32 : decode cX5_digits 32 = .ok (.bipush 10, 2) := by decide +kernel
theorem dX5_digits_34 : decode cX5_digits 34 = .ok (.idiv, 1) := by decide +kernel
theorem dX5_digits_35 : decode cX5_digits 35 = .ok (.istore_n 2, 1) := by decide +kernel
theorem dX5_digits_36 : decode cX5_digits 36 = .ok (.goto (-32), 3) := by decide +kernel
theorem dX5_digits_4 : decode cX5_digits 4 = .ok (.iload_n 2, 1) := by decide +kernel
theorem dX5_digits_5 : decode cX5_digits 5 = .ok (.ifCond .le 34, 3) := by decide +kernel
theorem dX5_digits_39 : decode cX5_digits 39 = .ok (.return_, 1) := by decide +kernel
theorem dX5_digits_8 : decode cX5_digits 8 = .ok (.iload_n 1, 1) := by decide +kernel
theorem dX5_digits_9 : decode cX5_digits 9 = .ok (.iload_n 2, 1) := by decide +kernel
theorem dX5_digits_10 : decode cX5_digits 10 = .ok (.if_icmp .ge 8, 3) := by decide +kernel
theorem dX5_digits_13 : decode cX5_digits 13 = .ok (.iload_n 2, 1) := by decide +kernel
theorem dX5_digits_14 : decode cX5_digits 14 = .ok (.iconst 1, 1) := by decide +kernel
theorem dX5_digits_15 : decode cX5_digits 15 = .ok (.if_icmp .ne 16, 3) := by decide +kernel
theorem dX5_digits_0 : decode cX5_digits 0 = .ok (.sipush 10000, 3) := by decide +kernel
theorem dX5_digits_3 : decode cX5_digits 3 = .ok (.istore_n 2, 1) := by decide +kernel
def fb_X5_digits_18 (K4 : Nat → Int32 → Int32 → uS → Option uS) (k0 : Nat) (x1 : Int32) (x2 : Int32) (s : uS) : Option uS := if ¬ x2 = 0 then ((fn_X5_put k0 ((48 : Int32) + ((x1 / x2) - (x1 / x2) / 10 * 10)) s).bind fun s2 => K4 k0 x1 (x2 / 10) s2) else none
set_option maxRecDepth 100000 in
set_option maxHeartbeats 4000000 in
theorem xb_X5_digits_18 {l : Launch} {D : va_G} {A : Nat → ClassId} {B : Nat} {Z : State → Heap → Prop} {vF : Value} (uk : uK B Z vF) {K4 : Nat → Int32 → Int32 → uS → Option uS} (hK4 : ∀ (k0 : Nat) (x1 : Int32) (x2 : Int32) (hk0 : uSo k0 5) (s : uS) (r : uS), K4 k0 x1 x2 s = some r → GU l D A B Z mX5_digits 1 (r, none) s 4 [(0, .ref (B + k0)), (1, .int x1), (2, .int x2)] []) {k0 : Nat} {x1 : Int32} {x2 : Int32} {s : uS} {r : uS} (hk0 : uSo k0 5) (h : fb_X5_digits_18 K4 k0 x1 x2 s = some r) : GU l D A B Z mX5_digits 1 (r, none) s 18 [(0, .ref (B + k0)), (1, .int x1), (2, .int x2)] [] := by
  unfold fb_X5_digits_18 at h
  refine uu_aload_n dX5_digits_18 rfl (List.mem_of_getElem? (i := 0) rfl) ?_
  refine uu_bipush (v := 48) dX5_digits_19 (by decide) ?_
  refine uu_iload_n dX5_digits_21 rfl (List.mem_of_getElem? (i := 1) rfl) ?_
  refine uu_iload_n dX5_digits_22 rfl (List.mem_of_getElem? (i := 2) rfl) ?_
  obtain ⟨g1, h⟩ := uu_grd h
  refine uu_idiv dX5_digits_23 g1 ?_
  refine uu_bipush (v := 10) dX5_digits_24 (by decide) ?_
  refine uu_irem dX5_digits_26 (by decide) ?_
  refine uu_iadd dX5_digits_27 ?_
  obtain ⟨s2, e3, h⟩ := uu_ob h
  refine uu_cv (d1 := 0) (k := k0) (ci := 5) (T := TX5) (N := 3) (As := [.int ((48 : Int32) + ((x1 / x2) - (x1 / x2) / 10 * 10))]) (st := []) (st' := []) (xc_X5_put uk hk0 e3) hk0.is (by decide) rfl kX5_put lX5_30 sX5_put (by decide) (Nat.le_of_ble_eq_true rfl) dX5_digits_28 rfl ?_
  refine uu_iload_n dX5_digits_31 rfl (List.mem_of_getElem? (i := 2) rfl) ?_
  refine uu_bipush (v := 10) dX5_digits_32 (by decide) ?_
  refine uu_idiv dX5_digits_34 (by decide) ?_
  refine uu_istore_n dX5_digits_35 rfl (by decide) rfl ?_
  refine uu_goto (tgt := 4) dX5_digits_36 (by decide) ?_
  refine uu_lv [1, 2, 0] (lv' := [(0, .ref (B + k0)), (1, .int x1), (2, .int (x2 / 10))]) rfl ?_
  exact hK4 k0 x1 (x2 / 10) hk0 _ _ h
def fb_X5_digits_4 (K4 : Nat → Int32 → Int32 → uS → Option uS) (k0 : Nat) (x1 : Int32) (x2 : Int32) (s : uS) : Option uS := if x2 ≤ 0 then (some s) else (if x2 ≤ x1 then (fb_X5_digits_18 K4 k0 x1 x2 s) else (if x2 = 1 then (fb_X5_digits_18 K4 k0 x1 x2 s) else (K4 k0 x1 (x2 / 10) s)))
set_option maxRecDepth 100000 in
set_option maxHeartbeats 4000000 in
theorem xb_X5_digits_4 {l : Launch} {D : va_G} {A : Nat → ClassId} {B : Nat} {Z : State → Heap → Prop} {vF : Value} (uk : uK B Z vF) {K4 : Nat → Int32 → Int32 → uS → Option uS} (hK4 : ∀ (k0 : Nat) (x1 : Int32) (x2 : Int32) (hk0 : uSo k0 5) (s : uS) (r : uS), K4 k0 x1 x2 s = some r → GU l D A B Z mX5_digits 1 (r, none) s 4 [(0, .ref (B + k0)), (1, .int x1), (2, .int x2)] []) {k0 : Nat} {x1 : Int32} {x2 : Int32} {s : uS} {r : uS} (hk0 : uSo k0 5) (h : fb_X5_digits_4 K4 k0 x1 x2 s = some r) : GU l D A B Z mX5_digits 1 (r, none) s 4 [(0, .ref (B + k0)), (1, .int x1), (2, .int x2)] [] := by
  unfold fb_X5_digits_4 at h
  refine uu_iload_n dX5_digits_4 rfl (List.mem_of_getElem? (i := 2) rfl) ?_
  refine uu_if_le (tgt := 39) dX5_digits_5 (by decide) (fun c1 => ?_) (fun c1 => ?_)
  · replace h := uu_pos c1 h
    have hr := Option.some.inj h
    subst hr
    exact uu_vret rfl dX5_digits_39
  · replace h := uu_neg c1 h
    refine uu_iload_n dX5_digits_8 rfl (List.mem_of_getElem? (i := 1) rfl) ?_
    refine uu_iload_n dX5_digits_9 rfl (List.mem_of_getElem? (i := 2) rfl) ?_
    refine uu_icmp_ge (tgt := 18) dX5_digits_10 (by decide) (fun c2 => ?_) (fun c2 => ?_)
    · replace h := uu_pos c2 h
      exact xb_X5_digits_18 uk hK4 hk0 h
    · replace h := uu_neg c2 h
      refine uu_iload_n dX5_digits_13 rfl (List.mem_of_getElem? (i := 2) rfl) ?_
      refine uu_iconst (v := 1) dX5_digits_14 (by decide) ?_
      refine uu_icmp_ne (tgt := 31) dX5_digits_15 (by decide) (fun c3 => ?_) (fun c3 => ?_)
      · replace h := uu_neg c3 h
        refine uu_iload_n dX5_digits_31 rfl (List.mem_of_getElem? (i := 2) rfl) ?_
        refine uu_bipush (v := 10) dX5_digits_32 (by decide) ?_
        refine uu_idiv dX5_digits_34 (by decide) ?_
        refine uu_istore_n dX5_digits_35 rfl (by decide) rfl ?_
        refine uu_goto (tgt := 4) dX5_digits_36 (by decide) ?_
        refine uu_lv [1, 2, 0] (lv' := [(0, .ref (B + k0)), (1, .int x1), (2, .int (x2 / 10))]) rfl ?_
        exact hK4 k0 x1 (x2 / 10) hk0 _ _ h
      · replace h := uu_pos c3 h
        exact xb_X5_digits_18 uk hK4 hk0 h
def fn_X5_digits_4  : Nat → Nat → Int32 → Int32 → uS → Option uS
  | 0 => fun _ _ _ _ => none
  | n + 1 => fb_X5_digits_4 (fn_X5_digits_4  n)
set_option maxRecDepth 100000 in
set_option maxHeartbeats 4000000 in
theorem xn_X5_digits_4 {l : Launch} {D : va_G} {A : Nat → ClassId} {B : Nat} {Z : State → Heap → Prop} {vF : Value} (uk : uK B Z vF)   : ∀ (n : Nat) (k0 : Nat) (x1 : Int32) (x2 : Int32) (hk0 : uSo k0 5) (s : uS) (r : uS), fn_X5_digits_4  n k0 x1 x2 s = some r → GU l D A B Z mX5_digits 1 (r, none) s 4 [(0, .ref (B + k0)), (1, .int x1), (2, .int x2)] [] := by
  intro n
  induction n with
  | zero => intro k0 x1 x2 hk0 s r h
            cases h
  | succ n ih => intro k0 x1 x2 hk0 s r h
                 exact xb_X5_digits_4 uk ih hk0 h
def fn_X5_digits (k0 : Nat) (x1 : Int32) (s : uS) : Option uS := fn_X5_digits_4 uFu k0 x1 10000 s
set_option maxRecDepth 100000 in
set_option maxHeartbeats 4000000 in
theorem xc_X5_digits {l : Launch} {D : va_G} {A : Nat → ClassId} {B : Nat} {Z : State → Heap → Prop} {vF : Value} (uk : uK B Z vF) {k0 : Nat} {x1 : Int32} {s : uS} {r : uS} (hk0 : uSo k0 5) (h : fn_X5_digits k0 x1 s = some r) : CU l D A B Z 1 mX5_digits s [.ref (B + k0), .int x1] (r, none) := by
  unfold fn_X5_digits at h
  refine cu_of rfl uk.1.1 (Nat.le_of_ble_eq_true rfl) ?_
  show GU _ _ _ _ _ _ _ _ _ 0 [(0, .ref (B + k0)), (1, .int x1)] []
  refine uu_sipush (v := 10000) dX5_digits_0 (by decide) ?_
  refine uu_istore_n dX5_digits_3 rfl (by decide) rfl ?_
  refine uu_lv [1, 2, 0] (lv' := [(0, .ref (B + k0)), (1, .int x1), (2, .int 10000)]) rfl ?_
  exact xn_X5_digits_4 uk  _ _ _ _ hk0 _ _ h
abbrev mX5_faultLine : hM := (yX5_faultLine, cX5_faultLine, 2, none)
theorem dX5_faultLine_0 : decode cX5_faultLine 0 = .ok (.aload_n 0, 1) := by decide +kernel
theorem dX5_faultLine_1 : decode cX5_faultLine 1 = .ok (.ldc 45, 2) := by decide +kernel
theorem dX5_faultLine_3 : decode cX5_faultLine 3 = .ok (.invokevirtual 34, 3) := by decide +kernel
theorem dX5_faultLine_6 : decode cX5_faultLine 6 = .ok (.aload_n 0, 1) := by decide +kernel
theorem dX5_faultLine_7 : decode cX5_faultLine 7 = .ok (.iload_n 1, 1) := by decide +kernel
theorem kX5_digits : h_ml mX5_digits 1 := ⟨h_t7 73 rfl rfl, h_t1 6 rfl rfl, ⟨by decide, by decide, by decide +kernel⟩, by decide⟩
theorem lX5_47 : Cond.methodLink RX5 47 mX5_digits.1 ∈ lw_g := h_t7 70 rfl rfl
theorem sX5_digits : Cond.instanceMethod mX5_digits.1 ∈ lw_g ∧ Cond.selects mX5_digits.1.cls mX5_digits.1 mX5_digits.1 ∈ lw_g := ⟨h_t7 72 rfl rfl, h_ins 88 rfl⟩
theorem dX5_faultLine_8 : decode cX5_faultLine 8 = .ok (.invokevirtual 47, 3) := by decide +kernel
theorem dX5_faultLine_11 : decode cX5_faultLine 11 = .ok (.aload_n 0, 1) := by decide +kernel
theorem dX5_faultLine_12 : decode cX5_faultLine 12 = .ok (.ldc 40, 2) := by decide +kernel
theorem dX5_faultLine_14 : decode cX5_faultLine 14 = .ok (.invokevirtual 42, 3) := by decide +kernel
theorem dX5_faultLine_17 : decode cX5_faultLine 17 = .ok (.return_, 1) := by decide +kernel
def fn_X5_faultLine (k0 : Nat) (x1 : Int32) (s : uS) : Option uS := (fn_X5_text k0 kW_47 s).bind fun s2 => (fn_X5_digits k0 x1 s2).bind fun s4 => (fn_X5_line k0 kW_46 s4).bind fun s7 => some s7
set_option maxRecDepth 100000 in
set_option maxHeartbeats 4000000 in
theorem xc_X5_faultLine {l : Launch} {D : va_G} {A : Nat → ClassId} {B : Nat} {Z : State → Heap → Prop} {vF : Value} (uk : uK B Z vF) {k0 : Nat} {x1 : Int32} {s : uS} {r : uS} (hk0 : uSo k0 5) (h : fn_X5_faultLine k0 x1 s = some r) : CU l D A B Z 6 mX5_faultLine s [.ref (B + k0), .int x1] (r, none) := by
  unfold fn_X5_faultLine at h
  refine cu_of rfl uk.1.1 (Nat.le_of_ble_eq_true rfl) ?_
  show GU _ _ _ _ _ _ _ _ _ 0 [(0, .ref (B + k0)), (1, .int x1)] []
  refine uu_aload_n dX5_faultLine_0 rfl (List.mem_of_getElem? (i := 0) rfl) ?_
  obtain ⟨cq1, cp1, cv1, cw1⟩ := uk.2.1 47 _ rfl
  refine uu_ldcS cv1 dX5_faultLine_1 ?_
  obtain ⟨s2, e3, h⟩ := uu_ob h
  refine uu_cv (d1 := 4) (k := k0) (ci := 5) (T := TX5) (N := 3) (As := [.ref cq1]) (st := []) (st' := []) (xc_X5_text uk hk0 cw1 e3) hk0.is (by decide) rfl kX5_text lX5_34 sX5_text (by decide) (Nat.le_of_ble_eq_true rfl) dX5_faultLine_3 rfl ?_
  refine uu_aload_n dX5_faultLine_6 rfl (List.mem_of_getElem? (i := 0) rfl) ?_
  refine uu_iload_n dX5_faultLine_7 rfl (List.mem_of_getElem? (i := 1) rfl) ?_
  obtain ⟨s4, e5, h⟩ := uu_ob h
  refine uu_cv (d1 := 1) (k := k0) (ci := 5) (T := TX5) (N := 3) (As := [.int x1]) (st := []) (st' := []) (xc_X5_digits uk hk0 e5) hk0.is (by decide) rfl kX5_digits lX5_47 sX5_digits (by decide) (Nat.le_of_ble_eq_true rfl) dX5_faultLine_8 rfl ?_
  refine uu_aload_n dX5_faultLine_11 rfl (List.mem_of_getElem? (i := 0) rfl) ?_
  obtain ⟨cq6, cp6, cv6, cw6⟩ := uk.2.1 46 _ rfl
  refine uu_ldcS cv6 dX5_faultLine_12 ?_
  obtain ⟨s7, e8, h⟩ := uu_ob h
  refine uu_cv (d1 := 5) (k := k0) (ci := 5) (T := TX5) (N := 3) (As := [.ref cq6]) (st := []) (st' := []) (xc_X5_line uk hk0 cw6 e8) hk0.is (by decide) rfl kX5_line lX5_42 sX5_line (by decide) (Nat.le_of_ble_eq_true rfl) dX5_faultLine_14 rfl ?_
  have hr := Option.some.inj h
  subst hr
  exact uu_vret rfl dX5_faultLine_17
abbrev mX5_script : hM := (yX5_script, cX5_script, 2, none)
theorem dX5_script_0 : decode cX5_script 0 = .ok (.aload_n 0, 1) := by decide +kernel
theorem dX5_script_1 : decode cX5_script 1 = .ok (.bipush 123, 2) := by decide +kernel
theorem dX5_script_3 : decode cX5_script 3 = .ok (.invokevirtual 30, 3) := by decide +kernel
theorem dX5_script_6 : decode cX5_script 6 = .ok (.aload_n 0, 1) := by decide +kernel
theorem dX5_script_7 : decode cX5_script 7 = .ok (.aload_n 1, 1) := by decide +kernel
theorem dX5_script_8 : decode cX5_script 8 = .ok (.arraylength, 1) := by decide +kernel
theorem dX5_script_9 : decode cX5_script 9 = .ok (.invokevirtual 47, 3) := by decide +kernel
theorem dX5_script_12 : decode cX5_script 12 = .ok (.aload_n 0, 1) := by decide +kernel
theorem dX5_script_13 : decode cX5_script 13 = .ok (.ldc 50, 2) := by decide +kernel
theorem dX5_script_15 : decode cX5_script 15 = .ok (.invokevirtual 42, 3) := by decide +kernel
theorem dX5_script_18 : decode cX5_script 18 = .ok (.aload_n 0, 1) := by decide +kernel
theorem dX5_script_19 : decode cX5_script 19 = .ok (.aload_n 1, 1) := by decide +kernel
theorem dX5_script_20 : decode cX5_script 20 = .ok (.iconst 0, 1) := by decide +kernel
theorem dX5_script_21 : decode cX5_script 21 = .ok (.aload_n 1, 1) := by decide +kernel
theorem dX5_script_22 : decode cX5_script 22 = .ok (.arraylength, 1) := by decide +kernel
theorem lX5_52 : Cond.methodLink RX5 52 mX5_range.1 ∈ lw_g := h_t7 111 rfl rfl
theorem dX5_script_23 : decode cX5_script 23 = .ok (.invokevirtual 52, 3) := by decide +kernel
theorem dX5_script_26 : decode cX5_script 26 = .ok (.aload_n 0, 1) := by decide +kernel
theorem dX5_script_27 : decode cX5_script 27 = .ok (.ldc 56, 2) := by decide +kernel
theorem dX5_script_29 : decode cX5_script 29 = .ok (.invokevirtual 42, 3) := by decide +kernel
theorem dX5_script_32 : decode cX5_script 32 = .ok (.return_, 1) := by decide +kernel
def fn_X5_script (k0 : Nat) (k1 : Nat) (s : uS) : Option uS := (fn_X5_put k0 123 s).bind fun s1 => (ulen s1 k1).bind fun v3 => (fn_X5_digits k0 v3 s1).bind fun s5 => (fn_X5_line k0 kW_48 s5).bind fun s8 => (ulen s8 k1).bind fun v10 => (fn_X5_range k0 k1 0 v10 s8).bind fun s12 => (fn_X5_line k0 kW_49 s12).bind fun s15 => some s15
set_option maxRecDepth 100000 in
set_option maxHeartbeats 4000000 in
theorem xc_X5_script {l : Launch} {D : va_G} {A : Nat → ClassId} {B : Nat} {Z : State → Heap → Prop} {vF : Value} (uk : uK B Z vF) {k0 : Nat} {k1 : Nat} {s : uS} {r : uS} (hk0 : uSo k0 5) (h : fn_X5_script k0 k1 s = some r) : CU l D A B Z 6 mX5_script s [.ref (B + k0), .ref (B + k1)] (r, none) := by
  unfold fn_X5_script at h
  refine cu_of rfl uk.1.1 (Nat.le_of_ble_eq_true rfl) ?_
  show GU _ _ _ _ _ _ _ _ _ 0 [(0, .ref (B + k0)), (1, .ref (B + k1))] []
  refine uu_aload_n dX5_script_0 rfl (List.mem_of_getElem? (i := 0) rfl) ?_
  refine uu_bipush (v := 123) dX5_script_1 (by decide) ?_
  obtain ⟨s1, e2, h⟩ := uu_ob h
  refine uu_cv (d1 := 0) (k := k0) (ci := 5) (T := TX5) (N := 3) (As := [.int 123]) (st := []) (st' := []) (xc_X5_put uk hk0 e2) hk0.is (by decide) rfl kX5_put lX5_30 sX5_put (by decide) (Nat.le_of_ble_eq_true rfl) dX5_script_3 rfl ?_
  refine uu_aload_n dX5_script_6 rfl (List.mem_of_getElem? (i := 0) rfl) ?_
  refine uu_aload_n dX5_script_7 rfl (List.mem_of_getElem? (i := 1) rfl) ?_
  obtain ⟨v3, e4, h⟩ := uu_ob h
  refine uu_alen e4 dX5_script_8 ?_
  obtain ⟨s5, e6, h⟩ := uu_ob h
  refine uu_cv (d1 := 1) (k := k0) (ci := 5) (T := TX5) (N := 3) (As := [.int v3]) (st := []) (st' := []) (xc_X5_digits uk hk0 e6) hk0.is (by decide) rfl kX5_digits lX5_47 sX5_digits (by decide) (Nat.le_of_ble_eq_true rfl) dX5_script_9 rfl ?_
  refine uu_aload_n dX5_script_12 rfl (List.mem_of_getElem? (i := 0) rfl) ?_
  obtain ⟨cq7, cp7, cv7, cw7⟩ := uk.2.1 48 _ rfl
  refine uu_ldcS cv7 dX5_script_13 ?_
  obtain ⟨s8, e9, h⟩ := uu_ob h
  refine uu_cv (d1 := 5) (k := k0) (ci := 5) (T := TX5) (N := 3) (As := [.ref cq7]) (st := []) (st' := []) (xc_X5_line uk hk0 cw7 e9) hk0.is (by decide) rfl kX5_line lX5_42 sX5_line (by decide) (Nat.le_of_ble_eq_true rfl) dX5_script_15 rfl ?_
  refine uu_aload_n dX5_script_18 rfl (List.mem_of_getElem? (i := 0) rfl) ?_
  refine uu_aload_n dX5_script_19 rfl (List.mem_of_getElem? (i := 1) rfl) ?_
  refine uu_iconst (v := 0) dX5_script_20 (by decide) ?_
  refine uu_aload_n dX5_script_21 rfl (List.mem_of_getElem? (i := 1) rfl) ?_
  obtain ⟨v10, e11, h⟩ := uu_ob h
  refine uu_alen e11 dX5_script_22 ?_
  obtain ⟨s12, e13, h⟩ := uu_ob h
  refine uu_cv (d1 := 1) (k := k0) (ci := 5) (T := TX5) (N := 3) (As := [.ref (B + k1), .int 0, .int v10]) (st := []) (st' := []) (xc_X5_range uk hk0 e13) hk0.is (by decide) rfl kX5_range lX5_52 sX5_range (by decide) (Nat.le_of_ble_eq_true rfl) dX5_script_23 rfl ?_
  refine uu_aload_n dX5_script_26 rfl (List.mem_of_getElem? (i := 0) rfl) ?_
  obtain ⟨cq14, cp14, cv14, cw14⟩ := uk.2.1 49 _ rfl
  refine uu_ldcS cv14 dX5_script_27 ?_
  obtain ⟨s15, e16, h⟩ := uu_ob h
  refine uu_cv (d1 := 5) (k := k0) (ci := 5) (T := TX5) (N := 3) (As := [.ref cq14]) (st := []) (st' := []) (xc_X5_line uk hk0 cw14 e16) hk0.is (by decide) rfl kX5_line lX5_42 sX5_line (by decide) (Nat.le_of_ble_eq_true rfl) dX5_script_29 rfl ?_
  have hr := Option.some.inj h
  subst hr
  exact uu_vret rfl dX5_script_32
abbrev mX5_quoted : hM := (yX5_quoted, cX5_quoted, 3, none)
theorem dX5_quoted_36 : decode cX5_quoted 36 = .ok (.aload_n 0, 1) := by decide +kernel
theorem dX5_quoted_37 : decode cX5_quoted 37 = .ok (.aload_n 1, 1) := by decide +kernel
theorem dX5_quoted_38 : decode cX5_quoted 38 = .ok (.iload_n 2, 1) := by decide +kernel
theorem dX5_quoted_39 : decode cX5_quoted 39 = .ok (.baload, 1) := by decide +kernel
theorem dX5_quoted_40 : decode cX5_quoted 40 = .ok (.invokevirtual 30, 3) := by decide +kernel
theorem dX5_quoted_43 : decode cX5_quoted 43 = .ok (.iinc 2 1, 3) := by decide +kernel
theorem dX5_quoted_46 : decode cX5_quoted 46 = .ok (.goto (-38), 3) := by decide +kernel
theorem dX5_quoted_30 : decode cX5_quoted 30 = .ok (.aload_n 0, 1) := by decide +kernel
theorem dX5_quoted_31 : decode cX5_quoted 31 = .ok (.bipush 92, 2) := by decide +kernel
theorem dX5_quoted_33 : decode cX5_quoted 33 = .ok (.invokevirtual 30, 3) := by decide +kernel
theorem dX5_quoted_8 : decode cX5_quoted 8 = .ok (.iload_n 2, 1) := by decide +kernel
theorem dX5_quoted_9 : decode cX5_quoted 9 = .ok (.aload_n 1, 1) := by decide +kernel
theorem dX5_quoted_10 : decode cX5_quoted 10 = .ok (.arraylength, 1) := by decide +kernel
theorem dX5_quoted_11 : decode cX5_quoted 11 = .ok (.if_icmp .ge 38, 3) := by decide +kernel
theorem dX5_quoted_49 : decode cX5_quoted 49 = .ok (.aload_n 0, 1) := by decide +kernel
theorem dX5_quoted_50 : decode cX5_quoted 50 = .ok (.bipush 34, 2) := by decide +kernel
theorem dX5_quoted_52 : decode cX5_quoted 52 = .ok (.invokevirtual 30, 3) := by decide +kernel
theorem dX5_quoted_55 : decode cX5_quoted 55 = .ok (.return_, 1) := by decide +kernel
theorem dX5_quoted_14 : decode cX5_quoted 14 = .ok (.aload_n 1, 1) := by decide +kernel
theorem dX5_quoted_15 : decode cX5_quoted 15 = .ok (.iload_n 2, 1) := by decide +kernel
theorem dX5_quoted_16 : decode cX5_quoted 16 = .ok (.baload, 1) := by decide +kernel
theorem dX5_quoted_17 : decode cX5_quoted 17 = .ok (.bipush 34, 2) := by decide +kernel
theorem dX5_quoted_19 : decode cX5_quoted 19 = .ok (.if_icmp .eq 11, 3) := by decide +kernel
theorem dX5_quoted_22 : decode cX5_quoted 22 = .ok (.aload_n 1, 1) := by decide +kernel
theorem dX5_quoted_23 : decode cX5_quoted 23 = .ok (.iload_n 2, 1) := by decide +kernel
theorem dX5_quoted_24 : decode cX5_quoted 24 = .ok (.baload, 1) := by decide +kernel
theorem dX5_quoted_25 : decode cX5_quoted 25 = .ok (.bipush 92, 2) := by decide +kernel
theorem dX5_quoted_27 : decode cX5_quoted 27 = .ok (.if_icmp .ne 9, 3) := by decide +kernel
theorem dX5_quoted_0 : decode cX5_quoted 0 = .ok (.aload_n 0, 1) := by decide +kernel
theorem dX5_quoted_1 : decode cX5_quoted 1 = .ok (.bipush 34, 2) := by decide +kernel
theorem dX5_quoted_3 : decode cX5_quoted 3 = .ok (.invokevirtual 30, 3) := by decide +kernel
theorem dX5_quoted_6 : decode cX5_quoted 6 = .ok (.iconst 0, 1) := by decide +kernel
theorem dX5_quoted_7 : decode cX5_quoted 7 = .ok (.istore_n 2, 1) := by decide +kernel
def fb_X5_quoted_36 (K8 : Nat → Nat → Int32 → uS → Option uS) (k0 : Nat) (k1 : Nat) (x2 : Int32) (s : uS) : Option uS := (iget 21 s k1 x2).bind fun v1 => (fn_X5_put k0 v1 s).bind fun s3 => K8 k0 k1 (x2 + 1) s3
set_option maxRecDepth 100000 in
set_option maxHeartbeats 4000000 in
theorem xb_X5_quoted_36 {l : Launch} {D : va_G} {A : Nat → ClassId} {B : Nat} {Z : State → Heap → Prop} {vF : Value} (uk : uK B Z vF) {K8 : Nat → Nat → Int32 → uS → Option uS} (hK8 : ∀ (k0 : Nat) (k1 : Nat) (x2 : Int32) (hk0 : uSo k0 5) (s : uS) (r : uS), K8 k0 k1 x2 s = some r → GU l D A B Z mX5_quoted 1 (r, none) s 8 [(0, .ref (B + k0)), (1, .ref (B + k1)), (2, .int x2)] []) {k0 : Nat} {k1 : Nat} {x2 : Int32} {s : uS} {r : uS} (hk0 : uSo k0 5) (h : fb_X5_quoted_36 K8 k0 k1 x2 s = some r) : GU l D A B Z mX5_quoted 1 (r, none) s 36 [(0, .ref (B + k0)), (1, .ref (B + k1)), (2, .int x2)] [] := by
  unfold fb_X5_quoted_36 at h
  refine uu_aload_n dX5_quoted_36 rfl (List.mem_of_getElem? (i := 0) rfl) ?_
  refine uu_aload_n dX5_quoted_37 rfl (List.mem_of_getElem? (i := 1) rfl) ?_
  refine uu_iload_n dX5_quoted_38 rfl (List.mem_of_getElem? (i := 2) rfl) ?_
  obtain ⟨v1, e2, h⟩ := uu_ob h
  refine uu_bald e2 dX5_quoted_39 ?_
  obtain ⟨s3, e4, h⟩ := uu_ob h
  refine uu_cv (d1 := 0) (k := k0) (ci := 5) (T := TX5) (N := 3) (As := [.int v1]) (st := []) (st' := []) (xc_X5_put uk hk0 e4) hk0.is (by decide) rfl kX5_put lX5_30 sX5_put (by decide) (Nat.le_of_ble_eq_true rfl) dX5_quoted_40 rfl ?_
  refine uu_iinc (v := x2 + 1) dX5_quoted_43 (k := 2) rfl rfl (by decide) rfl ?_
  refine uu_goto (tgt := 8) dX5_quoted_46 (by decide) ?_
  refine uu_lv [1, 2, 0] (lv' := [(0, .ref (B + k0)), (1, .ref (B + k1)), (2, .int (x2 + 1))]) rfl ?_
  exact hK8 k0 k1 (x2 + 1) hk0 _ _ h
def fb_X5_quoted_30 (K8 : Nat → Nat → Int32 → uS → Option uS) (k0 : Nat) (k1 : Nat) (x2 : Int32) (s : uS) : Option uS := (fn_X5_put k0 92 s).bind fun s1 => fb_X5_quoted_36 K8 k0 k1 x2 s1
set_option maxRecDepth 100000 in
set_option maxHeartbeats 4000000 in
theorem xb_X5_quoted_30 {l : Launch} {D : va_G} {A : Nat → ClassId} {B : Nat} {Z : State → Heap → Prop} {vF : Value} (uk : uK B Z vF) {K8 : Nat → Nat → Int32 → uS → Option uS} (hK8 : ∀ (k0 : Nat) (k1 : Nat) (x2 : Int32) (hk0 : uSo k0 5) (s : uS) (r : uS), K8 k0 k1 x2 s = some r → GU l D A B Z mX5_quoted 1 (r, none) s 8 [(0, .ref (B + k0)), (1, .ref (B + k1)), (2, .int x2)] []) {k0 : Nat} {k1 : Nat} {x2 : Int32} {s : uS} {r : uS} (hk0 : uSo k0 5) (h : fb_X5_quoted_30 K8 k0 k1 x2 s = some r) : GU l D A B Z mX5_quoted 1 (r, none) s 30 [(0, .ref (B + k0)), (1, .ref (B + k1)), (2, .int x2)] [] := by
  unfold fb_X5_quoted_30 at h
  refine uu_aload_n dX5_quoted_30 rfl (List.mem_of_getElem? (i := 0) rfl) ?_
  refine uu_bipush (v := 92) dX5_quoted_31 (by decide) ?_
  obtain ⟨s1, e2, h⟩ := uu_ob h
  refine uu_cv (d1 := 0) (k := k0) (ci := 5) (T := TX5) (N := 3) (As := [.int 92]) (st := []) (st' := []) (xc_X5_put uk hk0 e2) hk0.is (by decide) rfl kX5_put lX5_30 sX5_put (by decide) (Nat.le_of_ble_eq_true rfl) dX5_quoted_33 rfl ?_
  exact xb_X5_quoted_36 uk hK8 hk0 h
def fb_X5_quoted_8 (K8 : Nat → Nat → Int32 → uS → Option uS) (k0 : Nat) (k1 : Nat) (x2 : Int32) (s : uS) : Option uS := (ulen s k1).bind fun v1 => if v1 ≤ x2 then ((fn_X5_put k0 34 s).bind fun s4 => some s4) else ((iget 21 s k1 x2).bind fun v6 => if v6 = 34 then (fb_X5_quoted_30 K8 k0 k1 x2 s) else ((iget 21 s k1 x2).bind fun v9 => if v9 = 92 then (fb_X5_quoted_30 K8 k0 k1 x2 s) else (fb_X5_quoted_36 K8 k0 k1 x2 s)))
set_option maxRecDepth 100000 in
set_option maxHeartbeats 4000000 in
theorem xb_X5_quoted_8 {l : Launch} {D : va_G} {A : Nat → ClassId} {B : Nat} {Z : State → Heap → Prop} {vF : Value} (uk : uK B Z vF) {K8 : Nat → Nat → Int32 → uS → Option uS} (hK8 : ∀ (k0 : Nat) (k1 : Nat) (x2 : Int32) (hk0 : uSo k0 5) (s : uS) (r : uS), K8 k0 k1 x2 s = some r → GU l D A B Z mX5_quoted 1 (r, none) s 8 [(0, .ref (B + k0)), (1, .ref (B + k1)), (2, .int x2)] []) {k0 : Nat} {k1 : Nat} {x2 : Int32} {s : uS} {r : uS} (hk0 : uSo k0 5) (h : fb_X5_quoted_8 K8 k0 k1 x2 s = some r) : GU l D A B Z mX5_quoted 1 (r, none) s 8 [(0, .ref (B + k0)), (1, .ref (B + k1)), (2, .int x2)] [] := by
  unfold fb_X5_quoted_8 at h
  refine uu_iload_n dX5_quoted_8 rfl (List.mem_of_getElem? (i := 2) rfl) ?_
  refine uu_aload_n dX5_quoted_9 rfl (List.mem_of_getElem? (i := 1) rfl) ?_
  obtain ⟨v1, e2, h⟩ := uu_ob h
  refine uu_alen e2 dX5_quoted_10 ?_
  refine uu_icmp_ge (tgt := 49) dX5_quoted_11 (by decide) (fun c3 => ?_) (fun c3 => ?_)
  · replace h := uu_pos c3 h
    refine uu_aload_n dX5_quoted_49 rfl (List.mem_of_getElem? (i := 0) rfl) ?_
    refine uu_bipush (v := 34) dX5_quoted_50 (by decide) ?_
    obtain ⟨s4, e5, h⟩ := uu_ob h
    refine uu_cv (d1 := 0) (k := k0) (ci := 5) (T := TX5) (N := 3) (As := [.int 34]) (st := []) (st' := []) (xc_X5_put uk hk0 e5) hk0.is (by decide) rfl kX5_put lX5_30 sX5_put (by decide) (Nat.le_of_ble_eq_true rfl) dX5_quoted_52 rfl ?_
    have hr := Option.some.inj h
    subst hr
    exact uu_vret rfl dX5_quoted_55
  · replace h := uu_neg c3 h
    refine uu_aload_n dX5_quoted_14 rfl (List.mem_of_getElem? (i := 1) rfl) ?_
    refine uu_iload_n dX5_quoted_15 rfl (List.mem_of_getElem? (i := 2) rfl) ?_
    obtain ⟨v6, e7, h⟩ := uu_ob h
    refine uu_bald e7 dX5_quoted_16 ?_
    refine uu_bipush (v := 34) dX5_quoted_17 (by decide) ?_
    refine uu_icmp_eq (tgt := 30) dX5_quoted_19 (by decide) (fun c8 => ?_) (fun c8 => ?_)
    · replace h := uu_pos c8 h
      exact xb_X5_quoted_30 uk hK8 hk0 h
    · replace h := uu_neg c8 h
      refine uu_aload_n dX5_quoted_22 rfl (List.mem_of_getElem? (i := 1) rfl) ?_
      refine uu_iload_n dX5_quoted_23 rfl (List.mem_of_getElem? (i := 2) rfl) ?_
      obtain ⟨v9, e10, h⟩ := uu_ob h
      refine uu_bald e10 dX5_quoted_24 ?_
      refine uu_bipush (v := 92) dX5_quoted_25 (by decide) ?_
      refine uu_icmp_ne (tgt := 36) dX5_quoted_27 (by decide) (fun c11 => ?_) (fun c11 => ?_)
      · replace h := uu_neg c11 h
        exact xb_X5_quoted_36 uk hK8 hk0 h
      · replace h := uu_pos c11 h
        exact xb_X5_quoted_30 uk hK8 hk0 h
def fn_X5_quoted_8  : Nat → Nat → Nat → Int32 → uS → Option uS
  | 0 => fun _ _ _ _ => none
  | n + 1 => fb_X5_quoted_8 (fn_X5_quoted_8  n)
set_option maxRecDepth 100000 in
set_option maxHeartbeats 4000000 in
theorem xn_X5_quoted_8 {l : Launch} {D : va_G} {A : Nat → ClassId} {B : Nat} {Z : State → Heap → Prop} {vF : Value} (uk : uK B Z vF)   : ∀ (n : Nat) (k0 : Nat) (k1 : Nat) (x2 : Int32) (hk0 : uSo k0 5) (s : uS) (r : uS), fn_X5_quoted_8  n k0 k1 x2 s = some r → GU l D A B Z mX5_quoted 1 (r, none) s 8 [(0, .ref (B + k0)), (1, .ref (B + k1)), (2, .int x2)] [] := by
  intro n
  induction n with
  | zero => intro k0 k1 x2 hk0 s r h
            cases h
  | succ n ih => intro k0 k1 x2 hk0 s r h
                 exact xb_X5_quoted_8 uk ih hk0 h
def fn_X5_quoted (k0 : Nat) (k1 : Nat) (s : uS) : Option uS := (fn_X5_put k0 34 s).bind fun s1 => fn_X5_quoted_8 uFu k0 k1 0 s1
set_option maxRecDepth 100000 in
set_option maxHeartbeats 4000000 in
theorem xc_X5_quoted {l : Launch} {D : va_G} {A : Nat → ClassId} {B : Nat} {Z : State → Heap → Prop} {vF : Value} (uk : uK B Z vF) {k0 : Nat} {k1 : Nat} {s : uS} {r : uS} (hk0 : uSo k0 5) (h : fn_X5_quoted k0 k1 s = some r) : CU l D A B Z 1 mX5_quoted s [.ref (B + k0), .ref (B + k1)] (r, none) := by
  unfold fn_X5_quoted at h
  refine cu_of rfl uk.1.1 (Nat.le_of_ble_eq_true rfl) ?_
  show GU _ _ _ _ _ _ _ _ _ 0 [(0, .ref (B + k0)), (1, .ref (B + k1))] []
  refine uu_aload_n dX5_quoted_0 rfl (List.mem_of_getElem? (i := 0) rfl) ?_
  refine uu_bipush (v := 34) dX5_quoted_1 (by decide) ?_
  obtain ⟨s1, e2, h⟩ := uu_ob h
  refine uu_cv (d1 := 0) (k := k0) (ci := 5) (T := TX5) (N := 3) (As := [.int 34]) (st := []) (st' := []) (xc_X5_put uk hk0 e2) hk0.is (by decide) rfl kX5_put lX5_30 sX5_put (by decide) (Nat.le_of_ble_eq_true rfl) dX5_quoted_3 rfl ?_
  refine uu_iconst (v := 0) dX5_quoted_6 (by decide) ?_
  refine uu_istore_n dX5_quoted_7 rfl (by decide) rfl ?_
  refine uu_lv [1, 2, 0] (lv' := [(0, .ref (B + k0)), (1, .ref (B + k1)), (2, .int 0)]) rfl ?_
  exact xn_X5_quoted_8 uk  _ _ _ _ hk0 _ _ h
def fb_X5_take_53 (K16 : Nat → Int32 → Int64 → Int32 → uS → Option (uS × Int64)) (k0 : Nat) (x1 : Int32) (l2 : Int64) (x4 : Int32) (xs0 : Int32) (s : uS) : Option (uS × Int64) := K16 k0 x1 ((l2 <<< ((8 : Int32).toInt64 &&& 63)) ||| xs0.toInt64) (x4 + 1) s
set_option maxRecDepth 100000 in
set_option maxHeartbeats 4000000 in
theorem xb_X5_take_53 {l : Launch} {D : va_G} {A : Nat → ClassId} {B : Nat} {Z : State → Heap → Prop} {vF : Value} (uk : uK B Z vF) {K16 : Nat → Int32 → Int64 → Int32 → uS → Option (uS × Int64)} (hK16 : ∀ (k0 : Nat) (x1 : Int32) (l2 : Int64) (x4 : Int32) (hk0 : uSo k0 5) (s : uS) (r : (uS × Int64)), K16 k0 x1 l2 x4 s = some r → GU l D A B Z mX5_take 1 (r.1, some (.long r.2)) s 16 [(0, .ref (B + k0)), (1, .int x1), (2, .long l2), (4, .int x4)] []) {k0 : Nat} {x1 : Int32} {l2 : Int64} {x4 : Int32} {xs0 : Int32} {s : uS} {r : (uS × Int64)} (hk0 : uSo k0 5) (h : fb_X5_take_53 K16 k0 x1 l2 x4 xs0 s = some r) : GU l D A B Z mX5_take 1 (r.1, some (.long r.2)) s 53 [(0, .ref (B + k0)), (1, .int x1), (2, .long l2), (4, .int x4)] [.int xs0] := by
  unfold fb_X5_take_53 at h
  refine uu_istore dX5_take_53 (by decide) rfl ?_
  refine uu_lload_n dX5_take_55 rfl (List.mem_of_getElem? (i := 3) rfl) ?_
  refine uu_bipush (v := 8) dX5_take_56 (by decide) ?_
  refine uu_lshl dX5_take_58 rfl ?_
  refine uu_iload dX5_take_59 (List.mem_of_getElem? (i := 0) rfl) ?_
  refine uu_i2l dX5_take_61 rfl ?_
  refine uu_lor dX5_take_62 ?_
  refine uu_lstore_n dX5_take_63 rfl (by decide) rfl ?_
  refine uu_iinc (v := x4 + 1) dX5_take_64 (k := 4) rfl rfl (by decide) rfl ?_
  refine uu_goto (tgt := 16) dX5_take_67 (by decide) ?_
  refine uu_lv [3, 4, 1, 0] (lv' := [(0, .ref (B + k0)), (1, .int x1), (2, .long ((l2 <<< ((8 : Int32).toInt64 &&& 63)) ||| xs0.toInt64)), (4, .int (x4 + 1))]) rfl ?_
  exact hK16 k0 x1 ((l2 <<< ((8 : Int32).toInt64 &&& 63)) ||| xs0.toInt64) (x4 + 1) hk0 _ _ h
def fb_X5_take_16 (K16 : Nat → Int32 → Int64 → Int32 → uS → Option (uS × Int64)) (k0 : Nat) (x1 : Int32) (l2 : Int64) (x4 : Int32) (s : uS) : Option (uS × Int64) := if (7 : Int32) ≤ x4 then (some (wI (wI s k0 1 (((s.I k0 1) + x1) - ((s.I k0 1) + x1) / 10000 * 10000)) k0 2 (((wI s k0 1 (((s.I k0 1) + x1) - ((s.I k0 1) + x1) / 10000 * 10000)).I k0 2) - x1), l2)) else (if x1 ≤ x4 then (fb_X5_take_53 K16 k0 x1 l2 x4 0 s) else ((iget 21 s (k0 + 1) (((s.I k0 1) + x4) - ((s.I k0 1) + x4) / 10000 * 10000)).bind fun v3 => fb_X5_take_53 K16 k0 x1 l2 x4 (v3 &&& 255) s))
set_option maxRecDepth 100000 in
set_option maxHeartbeats 4000000 in
theorem xb_X5_take_16 {l : Launch} {D : va_G} {A : Nat → ClassId} {B : Nat} {Z : State → Heap → Prop} {vF : Value} (uk : uK B Z vF) {K16 : Nat → Int32 → Int64 → Int32 → uS → Option (uS × Int64)} (hK16 : ∀ (k0 : Nat) (x1 : Int32) (l2 : Int64) (x4 : Int32) (hk0 : uSo k0 5) (s : uS) (r : (uS × Int64)), K16 k0 x1 l2 x4 s = some r → GU l D A B Z mX5_take 1 (r.1, some (.long r.2)) s 16 [(0, .ref (B + k0)), (1, .int x1), (2, .long l2), (4, .int x4)] []) {k0 : Nat} {x1 : Int32} {l2 : Int64} {x4 : Int32} {s : uS} {r : (uS × Int64)} (hk0 : uSo k0 5) (h : fb_X5_take_16 K16 k0 x1 l2 x4 s = some r) : GU l D A B Z mX5_take 1 (r.1, some (.long r.2)) s 16 [(0, .ref (B + k0)), (1, .int x1), (2, .long l2), (4, .int x4)] [] := by
  unfold fb_X5_take_16 at h
  refine uu_iload dX5_take_16 (List.mem_of_getElem? (i := 3) rfl) ?_
  refine uu_bipush (v := 7) dX5_take_18 (by decide) ?_
  refine uu_icmp_ge (tgt := 70) dX5_take_20 (by decide) (fun c1 => ?_) (fun c1 => ?_)
  · replace h := uu_pos c1 h
    refine uu_aload_n dX5_take_70 rfl (List.mem_of_getElem? (i := 0) rfl) ?_
    refine uu_aload_n dX5_take_71 rfl (List.mem_of_getElem? (i := 0) rfl) ?_
    refine uu_geti (ci := 5) (N := 3) fX5_17 (by decide) hk0.is (by decide) (by decide) dX5_take_72 ?_
    refine uu_iload_n dX5_take_75 rfl (List.mem_of_getElem? (i := 1) rfl) ?_
    refine uu_iadd dX5_take_76 ?_
    refine uu_sipush (v := 10000) dX5_take_77 (by decide) ?_
    refine uu_irem dX5_take_80 (by decide) ?_
    refine uu_puti (ft := .int) (ci := 5) (N := 3) fX5_17 ptX5 (Or.inl rfl) (by decide) hk0.is (by decide) (by decide) (by decide +kernel) rfl rfl dX5_take_81 ?_
    refine uu_aload_n dX5_take_84 rfl (List.mem_of_getElem? (i := 0) rfl) ?_
    refine uu_dup dX5_take_85 rfl ?_
    refine uu_geti (ci := 5) (N := 3) fX5_13 (by decide) hk0.is (by decide) (by decide) dX5_take_86 ?_
    refine uu_iload_n dX5_take_89 rfl (List.mem_of_getElem? (i := 1) rfl) ?_
    refine uu_isub dX5_take_90 ?_
    refine uu_puti (ft := .int) (ci := 5) (N := 3) fX5_13 ptX5 (Or.inl rfl) (by decide) hk0.is (by decide) (by decide) (by decide +kernel) rfl rfl dX5_take_91 ?_
    refine uu_lload_n dX5_take_94 rfl (List.mem_of_getElem? (i := 2) rfl) ?_
    have hr := Option.some.inj h
    subst hr
    exact uu_lret rfl dX5_take_95
  · replace h := uu_neg c1 h
    refine uu_iload dX5_take_23 (List.mem_of_getElem? (i := 3) rfl) ?_
    refine uu_iload_n dX5_take_25 rfl (List.mem_of_getElem? (i := 1) rfl) ?_
    refine uu_icmp_ge (tgt := 52) dX5_take_26 (by decide) (fun c2 => ?_) (fun c2 => ?_)
    · replace h := uu_pos c2 h
      refine uu_iconst (v := 0) dX5_take_52 (by decide) ?_
      exact xb_X5_take_53 uk hK16 hk0 h
    · replace h := uu_neg c2 h
      refine uu_aload_n dX5_take_29 rfl (List.mem_of_getElem? (i := 0) rfl) ?_
      refine uu_getc (ci := 5) (N := 3) fX5_9 (by decide) hk0.is (by decide) (c := 1) (by decide) (k2 := k0 + 1) rfl dX5_take_30 ?_
      refine uu_aload_n dX5_take_33 rfl (List.mem_of_getElem? (i := 0) rfl) ?_
      refine uu_geti (ci := 5) (N := 3) fX5_17 (by decide) hk0.is (by decide) (by decide) dX5_take_34 ?_
      refine uu_iload dX5_take_37 (List.mem_of_getElem? (i := 3) rfl) ?_
      refine uu_iadd dX5_take_39 ?_
      refine uu_sipush (v := 10000) dX5_take_40 (by decide) ?_
      refine uu_irem dX5_take_43 (by decide) ?_
      obtain ⟨v3, e4, h⟩ := uu_ob h
      refine uu_bald e4 dX5_take_44 ?_
      refine uu_sipush (v := 255) dX5_take_45 (by decide) ?_
      refine uu_iand dX5_take_48 ?_
      refine uu_goto (tgt := 53) dX5_take_49 (by decide) ?_
      exact xb_X5_take_53 uk hK16 hk0 h
def fn_X5_take_16  : Nat → Nat → Int32 → Int64 → Int32 → uS → Option (uS × Int64)
  | 0 => fun _ _ _ _ _ => none
  | n + 1 => fb_X5_take_16 (fn_X5_take_16  n)
set_option maxRecDepth 100000 in
set_option maxHeartbeats 4000000 in
theorem xn_X5_take_16 {l : Launch} {D : va_G} {A : Nat → ClassId} {B : Nat} {Z : State → Heap → Prop} {vF : Value} (uk : uK B Z vF)   : ∀ (n : Nat) (k0 : Nat) (x1 : Int32) (l2 : Int64) (x4 : Int32) (hk0 : uSo k0 5) (s : uS) (r : (uS × Int64)), fn_X5_take_16  n k0 x1 l2 x4 s = some r → GU l D A B Z mX5_take 1 (r.1, some (.long r.2)) s 16 [(0, .ref (B + k0)), (1, .int x1), (2, .long l2), (4, .int x4)] [] := by
  intro n
  induction n with
  | zero => intro k0 x1 l2 x4 hk0 s r h
            cases h
  | succ n ih => intro k0 x1 l2 x4 hk0 s r h
                 exact xb_X5_take_16 uk ih hk0 h
def fn_X5_take (k0 : Nat) (s : uS) : Option (uS × Int64) := fn_X5_take_16 uFu k0 (if (s.I k0 2) < (7 : Int32) then (s.I k0 2) else (7 : Int32)) ((if (s.I k0 2) < (7 : Int32) then (s.I k0 2) else (7 : Int32)).toInt64) 0 s
set_option maxRecDepth 100000 in
set_option maxHeartbeats 4000000 in
theorem xc_X5_take {l : Launch} {D : va_G} {A : Nat → ClassId} {B : Nat} {Z : State → Heap → Prop} {vF : Value} (uk : uK B Z vF) {k0 : Nat} {s : uS} {r : (uS × Int64)} (hk0 : uSo k0 5) (h : fn_X5_take k0 s = some r) : CU l D A B Z 1 mX5_take s [.ref (B + k0)] (r.1, some (.long r.2)) := by
  unfold fn_X5_take at h
  refine cu_of rfl uk.1.1 (Nat.le_of_ble_eq_true rfl) ?_
  show GU _ _ _ _ _ _ _ _ _ 0 [(0, .ref (B + k0))] []
  refine uu_bipush (v := 7) dX5_take_0 (by decide) ?_
  refine uu_aload_n dX5_take_2 rfl (List.mem_of_getElem? (i := 0) rfl) ?_
  refine uu_geti (ci := 5) (N := 3) fX5_13 (by decide) hk0.is (by decide) (by decide) dX5_take_3 ?_
  refine uu_mmin lX5_58 (by decide) (Nat.le_of_ble_eq_true rfl) dX5_take_6 ?_
  refine uu_istore_n dX5_take_9 rfl (by decide) rfl ?_
  refine uu_iload_n dX5_take_10 rfl (List.mem_of_getElem? (i := 0) rfl) ?_
  refine uu_i2l dX5_take_11 rfl ?_
  refine uu_lstore_n dX5_take_12 rfl (by decide) rfl ?_
  refine uu_iconst (v := 0) dX5_take_13 (by decide) ?_
  refine uu_istore dX5_take_14 (by decide) rfl ?_
  refine uu_lv [3, 2, 1, 0] (lv' := [(0, .ref (B + k0)), (1, .int (if (s.I k0 2) < (7 : Int32) then (s.I k0 2) else (7 : Int32))), (2, .long ((if (s.I k0 2) < (7 : Int32) then (s.I k0 2) else (7 : Int32)).toInt64)), (4, .int 0)]) rfl ?_
  exact xn_X5_take_16 uk  _ _ _ _ _ hk0 _ _ h
abbrev mX6_lineEnd : hM := (yX6_lineEnd, cX6_lineEnd, 5, (some (.int)))
theorem dX6_lineEnd_11 : decode cX6_lineEnd 11 = .ok (.iload 4, 2) := by decide +kernel
theorem dX6_lineEnd_13 : decode cX6_lineEnd 13 = .ok (.iconst 1, 1) := by decide +kernel
theorem dX6_lineEnd_14 : decode cX6_lineEnd 14 = .ok (.iadd, 1) := by decide +kernel
theorem dX6_lineEnd_15 : decode cX6_lineEnd 15 = .ok (.iload_n 2, 1) := by decide +kernel
theorem dX6_lineEnd_16 : decode cX6_lineEnd 16 = .ok (.if_icmp .ge 32, 3) := by decide +kernel
theorem dX6_lineEnd_48 : decode cX6_lineEnd 48 = .ok (.iload_n 2, 1) := by decide +kernel
theorem dX6_lineEnd_49 : decode cX6_lineEnd 49 = .ok (.ireturn, 1) := by decide +kernel
theorem dX6_lineEnd_19 : decode cX6_lineEnd 19 = .ok (.aload_n 3, 1) := by decide +kernel
theorem dX6_lineEnd_20 : decode cX6_lineEnd 20 = .ok (.iload 4, 2) := by decide +kernel
theorem dX6_lineEnd_22 : decode cX6_lineEnd 22 = .ok (.baload, 1) := by decide +kernel
theorem dX6_lineEnd_23 : decode cX6_lineEnd 23 = .ok (.bipush 13, 2) := by decide +kernel
theorem dX6_lineEnd_25 : decode cX6_lineEnd 25 = .ok (.if_icmp .ne 17, 3) := by decide +kernel
theorem dX6_lineEnd_42 : decode cX6_lineEnd 42 = .ok (.iinc 4 1, 3) := by decide +kernel
theorem dX6_lineEnd_45 : decode cX6_lineEnd 45 = .ok (.goto (-34), 3) := by decide +kernel
theorem dX6_lineEnd_28 : decode cX6_lineEnd 28 = .ok (.aload_n 3, 1) := by decide +kernel
theorem dX6_lineEnd_29 : decode cX6_lineEnd 29 = .ok (.iload 4, 2) := by decide +kernel
theorem dX6_lineEnd_31 : decode cX6_lineEnd 31 = .ok (.iconst 1, 1) := by decide +kernel
theorem dX6_lineEnd_32 : decode cX6_lineEnd 32 = .ok (.iadd, 1) := by decide +kernel
theorem dX6_lineEnd_33 : decode cX6_lineEnd 33 = .ok (.baload, 1) := by decide +kernel
theorem dX6_lineEnd_34 : decode cX6_lineEnd 34 = .ok (.bipush 10, 2) := by decide +kernel
theorem dX6_lineEnd_36 : decode cX6_lineEnd 36 = .ok (.if_icmp .ne 6, 3) := by decide +kernel
theorem dX6_lineEnd_39 : decode cX6_lineEnd 39 = .ok (.iload 4, 2) := by decide +kernel
theorem dX6_lineEnd_41 : decode cX6_lineEnd 41 = .ok (.ireturn, 1) := by decide +kernel
theorem dX6_lineEnd_0 : decode cX6_lineEnd 0 = .ok (.aload_n 0, 1) := by decide +kernel
theorem dX6_lineEnd_1 : decode cX6_lineEnd 1 = .ok (.getfield 27, 3) := by decide +kernel
theorem fX6_54 : h_fl RX6 54 0 2 RX0 TX0 12 := ⟨rfl, by decide, inX0, h_t2 172 rfl rfl⟩
theorem dX6_lineEnd_4 : decode cX6_lineEnd 4 = .ok (.getfield 54, 3) := by decide +kernel
theorem dX6_lineEnd_7 : decode cX6_lineEnd 7 = .ok (.astore_n 3, 1) := by decide +kernel
theorem dX6_lineEnd_8 : decode cX6_lineEnd 8 = .ok (.iload_n 1, 1) := by decide +kernel
theorem dX6_lineEnd_9 : decode cX6_lineEnd 9 = .ok (.istore 4, 2) := by decide +kernel
def fb_X6_lineEnd_11 (K11 : Int32 → Int32 → uS → Option Int32) (x2 : Int32) (x4 : Int32) (s : uS) : Option Int32 := if x2 ≤ (x4 + 1) then (some x2) else ((iget 21 s 1051 x4).bind fun v2 => if v2 = 13 then ((iget 21 s 1051 (x4 + 1)).bind fun v5 => if v5 = 10 then (some x4) else (K11 x2 (x4 + 1) s)) else (K11 x2 (x4 + 1) s))
set_option maxRecDepth 100000 in
set_option maxHeartbeats 4000000 in
theorem xb_X6_lineEnd_11 {l : Launch} {D : va_G} {A : Nat → ClassId} {B : Nat} {Z : State → Heap → Prop} {vF : Value} (uk : uK B Z vF) {K11 : Int32 → Int32 → uS → Option Int32} (hK11 : ∀ (x2 : Int32) (x4 : Int32)  (s : uS) (r : Int32), K11 x2 x4 s = some r → GU l D A B Z mX6_lineEnd 0 (s, some (.int r)) s 11 [(2, .int x2), (3, .ref (B + 1051)), (4, .int x4)] []) {x2 : Int32} {x4 : Int32} {s : uS} {r : Int32}  (h : fb_X6_lineEnd_11 K11 x2 x4 s = some r) : GU l D A B Z mX6_lineEnd 0 (s, some (.int r)) s 11 [(2, .int x2), (3, .ref (B + 1051)), (4, .int x4)] [] := by
  unfold fb_X6_lineEnd_11 at h
  refine uu_iload dX6_lineEnd_11 (List.mem_of_getElem? (i := 2) rfl) ?_
  refine uu_iconst (v := 1) dX6_lineEnd_13 (by decide) ?_
  refine uu_iadd dX6_lineEnd_14 ?_
  refine uu_iload_n dX6_lineEnd_15 rfl (List.mem_of_getElem? (i := 0) rfl) ?_
  refine uu_icmp_ge (tgt := 48) dX6_lineEnd_16 (by decide) (fun c1 => ?_) (fun c1 => ?_)
  · replace h := uu_pos c1 h
    refine uu_iload_n dX6_lineEnd_48 rfl (List.mem_of_getElem? (i := 0) rfl) ?_
    have hr := Option.some.inj h
    subst hr
    exact uu_iret rfl dX6_lineEnd_49
  · replace h := uu_neg c1 h
    refine uu_aload_n dX6_lineEnd_19 rfl (List.mem_of_getElem? (i := 1) rfl) ?_
    refine uu_iload dX6_lineEnd_20 (List.mem_of_getElem? (i := 2) rfl) ?_
    obtain ⟨v2, e3, h⟩ := uu_ob h
    refine uu_bald e3 dX6_lineEnd_22 ?_
    refine uu_bipush (v := 13) dX6_lineEnd_23 (by decide) ?_
    refine uu_icmp_ne (tgt := 42) dX6_lineEnd_25 (by decide) (fun c4 => ?_) (fun c4 => ?_)
    · replace h := uu_neg c4 h
      refine uu_iinc (v := x4 + 1) dX6_lineEnd_42 (k := 2) rfl rfl (by decide) rfl ?_
      refine uu_goto (tgt := 11) dX6_lineEnd_45 (by decide) ?_
      refine uu_lv [1, 2, 0] (lv' := [(2, .int x2), (3, .ref (B + 1051)), (4, .int (x4 + 1))]) rfl ?_
      exact hK11 x2 (x4 + 1) _ _ h
    · replace h := uu_pos c4 h
      refine uu_aload_n dX6_lineEnd_28 rfl (List.mem_of_getElem? (i := 1) rfl) ?_
      refine uu_iload dX6_lineEnd_29 (List.mem_of_getElem? (i := 2) rfl) ?_
      refine uu_iconst (v := 1) dX6_lineEnd_31 (by decide) ?_
      refine uu_iadd dX6_lineEnd_32 ?_
      obtain ⟨v5, e6, h⟩ := uu_ob h
      refine uu_bald e6 dX6_lineEnd_33 ?_
      refine uu_bipush (v := 10) dX6_lineEnd_34 (by decide) ?_
      refine uu_icmp_ne (tgt := 42) dX6_lineEnd_36 (by decide) (fun c7 => ?_) (fun c7 => ?_)
      · replace h := uu_neg c7 h
        refine uu_iinc (v := x4 + 1) dX6_lineEnd_42 (k := 2) rfl rfl (by decide) rfl ?_
        refine uu_goto (tgt := 11) dX6_lineEnd_45 (by decide) ?_
        refine uu_lv [1, 2, 0] (lv' := [(2, .int x2), (3, .ref (B + 1051)), (4, .int (x4 + 1))]) rfl ?_
        exact hK11 x2 (x4 + 1) _ _ h
      · replace h := uu_pos c7 h
        refine uu_iload dX6_lineEnd_39 (List.mem_of_getElem? (i := 2) rfl) ?_
        have hr := Option.some.inj h
        subst hr
        exact uu_iret rfl dX6_lineEnd_41
def fn_X6_lineEnd_11  : Nat → Int32 → Int32 → uS → Option Int32
  | 0 => fun _ _ _ => none
  | n + 1 => fb_X6_lineEnd_11 (fn_X6_lineEnd_11  n)
set_option maxRecDepth 100000 in
set_option maxHeartbeats 4000000 in
theorem xn_X6_lineEnd_11 {l : Launch} {D : va_G} {A : Nat → ClassId} {B : Nat} {Z : State → Heap → Prop} {vF : Value} (uk : uK B Z vF)   : ∀ (n : Nat) (x2 : Int32) (x4 : Int32)  (s : uS) (r : Int32), fn_X6_lineEnd_11  n x2 x4 s = some r → GU l D A B Z mX6_lineEnd 0 (s, some (.int r)) s 11 [(2, .int x2), (3, .ref (B + 1051)), (4, .int x4)] [] := by
  intro n
  induction n with
  | zero => intro x2 x4 s r h
            cases h
  | succ n ih => intro x2 x4 s r h
                 exact xb_X6_lineEnd_11 uk ih  h
def fn_X6_lineEnd (x1 : Int32) (x2 : Int32) (s : uS) : Option Int32 := fn_X6_lineEnd_11 uFu x2 x1 s
set_option maxRecDepth 100000 in
set_option maxHeartbeats 4000000 in
theorem xc_X6_lineEnd {l : Launch} {D : va_G} {A : Nat → ClassId} {B : Nat} {Z : State → Heap → Prop} {vF : Value} (uk : uK B Z vF) {x1 : Int32} {x2 : Int32} {s : uS} {r : Int32}  (h : fn_X6_lineEnd x1 x2 s = some r) : CU l D A B Z 0 mX6_lineEnd s [.ref (B + 1053), .int x1, .int x2] (s, some (.int r)) := by
  unfold fn_X6_lineEnd at h
  refine cu_of rfl uk.1.1 (Nat.le_of_ble_eq_true rfl) ?_
  show GU _ _ _ _ _ _ _ _ _ 0 [(0, .ref (B + 1053)), (1, .int x1), (2, .int x2)] []
  refine uu_aload_n dX6_lineEnd_0 rfl (List.mem_of_getElem? (i := 0) rfl) ?_
  refine uu_geta (ci := 6) (N := 6) fX6_27 (by decide) so_1053.is (by decide) (c := 1042) (by decide) dX6_lineEnd_1 ?_
  refine uu_geta (ci := 0) (N := 12) fX6_54 (by decide) so_1042.is (by decide) (c := 1051) (by decide) dX6_lineEnd_4 ?_
  refine uu_astore_n dX6_lineEnd_7 rfl (by decide) rfl ?_
  refine uu_iload_n dX6_lineEnd_8 rfl (List.mem_of_getElem? (i := 2) rfl) ?_
  refine uu_istore dX6_lineEnd_9 (by decide) rfl ?_
  refine uu_lv [4, 1, 0] (lv' := [(2, .int x2), (3, .ref (B + 1051)), (4, .int x1)]) rfl ?_
  exact xn_X6_lineEnd_11 uk  _ _ _ _ _ h
abbrev mX9_closeTrimmed : hM := (yX9_closeTrimmed, cX9_closeTrimmed, 2, none)
theorem dX9_closeTrimmed_56 : decode cX9_closeTrimmed 56 = .ok (.aload_n 0, 1) := by decide +kernel
theorem dX9_closeTrimmed_57 : decode cX9_closeTrimmed 57 = .ok (.getfield 13, 3) := by decide +kernel
theorem dX9_closeTrimmed_60 : decode cX9_closeTrimmed 60 = .ok (.iload_n 1, 1) := by decide +kernel
theorem dX9_closeTrimmed_61 : decode cX9_closeTrimmed 61 = .ok (.iaload, 1) := by decide +kernel
theorem dX9_closeTrimmed_62 : decode cX9_closeTrimmed 62 = .ok (.aload_n 0, 1) := by decide +kernel
theorem dX9_closeTrimmed_63 : decode cX9_closeTrimmed 63 = .ok (.getfield 17, 3) := by decide +kernel
theorem dX9_closeTrimmed_66 : decode cX9_closeTrimmed 66 = .ok (.iload_n 1, 1) := by decide +kernel
theorem dX9_closeTrimmed_67 : decode cX9_closeTrimmed 67 = .ok (.iaload, 1) := by decide +kernel
theorem dX9_closeTrimmed_68 : decode cX9_closeTrimmed 68 = .ok (.if_icmp .ge 35, 3) := by decide +kernel
theorem dX9_closeTrimmed_103 : decode cX9_closeTrimmed 103 = .ok (.return_, 1) := by decide +kernel
theorem dX9_closeTrimmed_71 : decode cX9_closeTrimmed 71 = .ok (.aload_n 0, 1) := by decide +kernel
theorem dX9_closeTrimmed_72 : decode cX9_closeTrimmed 72 = .ok (.getfield 9, 3) := by decide +kernel
theorem dX9_closeTrimmed_75 : decode cX9_closeTrimmed 75 = .ok (.aload_n 0, 1) := by decide +kernel
theorem dX9_closeTrimmed_76 : decode cX9_closeTrimmed 76 = .ok (.getfield 17, 3) := by decide +kernel
theorem dX9_closeTrimmed_79 : decode cX9_closeTrimmed 79 = .ok (.iload_n 1, 1) := by decide +kernel
theorem dX9_closeTrimmed_80 : decode cX9_closeTrimmed 80 = .ok (.iaload, 1) := by decide +kernel
theorem dX9_closeTrimmed_81 : decode cX9_closeTrimmed 81 = .ok (.iconst 1, 1) := by decide +kernel
theorem dX9_closeTrimmed_82 : decode cX9_closeTrimmed 82 = .ok (.isub, 1) := by decide +kernel
theorem dX9_closeTrimmed_83 : decode cX9_closeTrimmed 83 = .ok (.baload, 1) := by decide +kernel
theorem lX9_64 : Cond.methodLink RX9 64 mX9_isBlank.1 ∈ lw_g := h_t4 138 rfl rfl
theorem dX9_closeTrimmed_84 : decode cX9_closeTrimmed 84 = .ok (.invokestatic 64, 3) := by decide +kernel
theorem dX9_closeTrimmed_87 : decode cX9_closeTrimmed 87 = .ok (.ifCond .eq 16, 3) := by decide +kernel
theorem dX9_closeTrimmed_90 : decode cX9_closeTrimmed 90 = .ok (.aload_n 0, 1) := by decide +kernel
theorem dX9_closeTrimmed_91 : decode cX9_closeTrimmed 91 = .ok (.getfield 17, 3) := by decide +kernel
theorem dX9_closeTrimmed_94 : decode cX9_closeTrimmed 94 = .ok (.iload_n 1, 1) := by decide +kernel
theorem dX9_closeTrimmed_95 : decode cX9_closeTrimmed 95 = .ok (.dup2, 1) := by decide +kernel
theorem dX9_closeTrimmed_96 : decode cX9_closeTrimmed 96 = .ok (.iaload, 1) := by decide +kernel
theorem dX9_closeTrimmed_97 : decode cX9_closeTrimmed 97 = .ok (.iconst 1, 1) := by decide +kernel
theorem dX9_closeTrimmed_98 : decode cX9_closeTrimmed 98 = .ok (.isub, 1) := by decide +kernel
theorem dX9_closeTrimmed_99 : decode cX9_closeTrimmed 99 = .ok (.iastore, 1) := by decide +kernel
theorem dX9_closeTrimmed_100 : decode cX9_closeTrimmed 100 = .ok (.goto (-44), 3) := by decide +kernel
theorem dX9_closeTrimmed_11 : decode cX9_closeTrimmed 11 = .ok (.aload_n 0, 1) := by decide +kernel
theorem dX9_closeTrimmed_12 : decode cX9_closeTrimmed 12 = .ok (.getfield 13, 3) := by decide +kernel
theorem dX9_closeTrimmed_15 : decode cX9_closeTrimmed 15 = .ok (.iload_n 1, 1) := by decide +kernel
theorem dX9_closeTrimmed_16 : decode cX9_closeTrimmed 16 = .ok (.iaload, 1) := by decide +kernel
theorem dX9_closeTrimmed_17 : decode cX9_closeTrimmed 17 = .ok (.aload_n 0, 1) := by decide +kernel
theorem dX9_closeTrimmed_18 : decode cX9_closeTrimmed 18 = .ok (.getfield 17, 3) := by decide +kernel
theorem dX9_closeTrimmed_21 : decode cX9_closeTrimmed 21 = .ok (.iload_n 1, 1) := by decide +kernel
theorem dX9_closeTrimmed_22 : decode cX9_closeTrimmed 22 = .ok (.iaload, 1) := by decide +kernel
theorem dX9_closeTrimmed_23 : decode cX9_closeTrimmed 23 = .ok (.if_icmp .ge 33, 3) := by decide +kernel
theorem dX9_closeTrimmed_26 : decode cX9_closeTrimmed 26 = .ok (.aload_n 0, 1) := by decide +kernel
theorem dX9_closeTrimmed_27 : decode cX9_closeTrimmed 27 = .ok (.getfield 9, 3) := by decide +kernel
theorem dX9_closeTrimmed_30 : decode cX9_closeTrimmed 30 = .ok (.aload_n 0, 1) := by decide +kernel
theorem dX9_closeTrimmed_31 : decode cX9_closeTrimmed 31 = .ok (.getfield 13, 3) := by decide +kernel
theorem dX9_closeTrimmed_34 : decode cX9_closeTrimmed 34 = .ok (.iload_n 1, 1) := by decide +kernel
theorem dX9_closeTrimmed_35 : decode cX9_closeTrimmed 35 = .ok (.iaload, 1) := by decide +kernel
theorem dX9_closeTrimmed_36 : decode cX9_closeTrimmed 36 = .ok (.baload, 1) := by decide +kernel
theorem dX9_closeTrimmed_37 : decode cX9_closeTrimmed 37 = .ok (.invokestatic 64, 3) := by decide +kernel
theorem dX9_closeTrimmed_40 : decode cX9_closeTrimmed 40 = .ok (.ifCond .eq 16, 3) := by decide +kernel
theorem dX9_closeTrimmed_43 : decode cX9_closeTrimmed 43 = .ok (.aload_n 0, 1) := by decide +kernel
theorem dX9_closeTrimmed_44 : decode cX9_closeTrimmed 44 = .ok (.getfield 13, 3) := by decide +kernel
theorem dX9_closeTrimmed_47 : decode cX9_closeTrimmed 47 = .ok (.iload_n 1, 1) := by decide +kernel
theorem dX9_closeTrimmed_48 : decode cX9_closeTrimmed 48 = .ok (.dup2, 1) := by decide +kernel
theorem dX9_closeTrimmed_49 : decode cX9_closeTrimmed 49 = .ok (.iaload, 1) := by decide +kernel
theorem dX9_closeTrimmed_50 : decode cX9_closeTrimmed 50 = .ok (.iconst 1, 1) := by decide +kernel
theorem dX9_closeTrimmed_51 : decode cX9_closeTrimmed 51 = .ok (.iadd, 1) := by decide +kernel
theorem dX9_closeTrimmed_52 : decode cX9_closeTrimmed 52 = .ok (.iastore, 1) := by decide +kernel
theorem dX9_closeTrimmed_53 : decode cX9_closeTrimmed 53 = .ok (.goto (-42), 3) := by decide +kernel
theorem dX9_closeTrimmed_0 : decode cX9_closeTrimmed 0 = .ok (.aload_n 0, 1) := by decide +kernel
theorem lX9_61 : Cond.methodLink RX9 61 mX9_close.1 ∈ lw_g := h_t4 137 rfl rfl
theorem dX9_closeTrimmed_1 : decode cX9_closeTrimmed 1 = .ok (.invokevirtual 61, 3) := by decide +kernel
theorem dX9_closeTrimmed_4 : decode cX9_closeTrimmed 4 = .ok (.aload_n 0, 1) := by decide +kernel
theorem dX9_closeTrimmed_5 : decode cX9_closeTrimmed 5 = .ok (.getfield 20, 3) := by decide +kernel
theorem dX9_closeTrimmed_8 : decode cX9_closeTrimmed 8 = .ok (.iconst 1, 1) := by decide +kernel
theorem dX9_closeTrimmed_9 : decode cX9_closeTrimmed 9 = .ok (.isub, 1) := by decide +kernel
theorem dX9_closeTrimmed_10 : decode cX9_closeTrimmed 10 = .ok (.istore_n 1, 1) := by decide +kernel
def fb_X9_closeTrimmed_56 (K56 : Nat → Int32 → uS → Option uS) (k0 : Nat) (x1 : Int32) (s : uS) : Option uS := (iget 20 s (k0 + 2) x1).bind fun v1 => (iget 20 s (k0 + 3) x1).bind fun v3 => if v3 ≤ v1 then (some s) else ((iget 20 s (k0 + 3) x1).bind fun v6 => (iget 21 s (k0 + 1) (v6 - 1)).bind fun v8 => (fn_X9_isBlank v8 s).bind fun v10 => if v10 = true then ((iget 20 s (k0 + 3) x1).bind fun v13 => (iput 20 s (k0 + 3) x1 (v13 - 1)).bind fun s15 => K56 k0 x1 s15) else (some s))
set_option maxRecDepth 100000 in
set_option maxHeartbeats 4000000 in
theorem xb_X9_closeTrimmed_56 {l : Launch} {D : va_G} {A : Nat → ClassId} {B : Nat} {Z : State → Heap → Prop} {vF : Value} (uk : uK B Z vF) {K56 : Nat → Int32 → uS → Option uS} (hK56 : ∀ (k0 : Nat) (x1 : Int32) (hk0 : uSo k0 9) (s : uS) (r : uS), K56 k0 x1 s = some r → GU l D A B Z mX9_closeTrimmed 1 (r, none) s 56 [(0, .ref (B + k0)), (1, .int x1)] []) {k0 : Nat} {x1 : Int32} {s : uS} {r : uS} (hk0 : uSo k0 9) (h : fb_X9_closeTrimmed_56 K56 k0 x1 s = some r) : GU l D A B Z mX9_closeTrimmed 1 (r, none) s 56 [(0, .ref (B + k0)), (1, .int x1)] [] := by
  unfold fb_X9_closeTrimmed_56 at h
  refine uu_aload_n dX9_closeTrimmed_56 rfl (List.mem_of_getElem? (i := 0) rfl) ?_
  refine uu_getc (ci := 9) (N := 6) fX9_13 (by decide) hk0.is (by decide) (c := 2) (by decide) (k2 := k0 + 2) rfl dX9_closeTrimmed_57 ?_
  refine uu_iload_n dX9_closeTrimmed_60 rfl (List.mem_of_getElem? (i := 1) rfl) ?_
  obtain ⟨v1, e2, h⟩ := uu_ob h
  refine uu_iald e2 dX9_closeTrimmed_61 ?_
  refine uu_aload_n dX9_closeTrimmed_62 rfl (List.mem_of_getElem? (i := 0) rfl) ?_
  refine uu_getc (ci := 9) (N := 6) fX9_17 (by decide) hk0.is (by decide) (c := 3) (by decide) (k2 := k0 + 3) rfl dX9_closeTrimmed_63 ?_
  refine uu_iload_n dX9_closeTrimmed_66 rfl (List.mem_of_getElem? (i := 1) rfl) ?_
  obtain ⟨v3, e4, h⟩ := uu_ob h
  refine uu_iald e4 dX9_closeTrimmed_67 ?_
  refine uu_icmp_ge (tgt := 103) dX9_closeTrimmed_68 (by decide) (fun c5 => ?_) (fun c5 => ?_)
  · replace h := uu_pos c5 h
    have hr := Option.some.inj h
    subst hr
    exact uu_vret rfl dX9_closeTrimmed_103
  · replace h := uu_neg c5 h
    refine uu_aload_n dX9_closeTrimmed_71 rfl (List.mem_of_getElem? (i := 0) rfl) ?_
    refine uu_getc (ci := 9) (N := 6) fX9_9 (by decide) hk0.is (by decide) (c := 1) (by decide) (k2 := k0 + 1) rfl dX9_closeTrimmed_72 ?_
    refine uu_aload_n dX9_closeTrimmed_75 rfl (List.mem_of_getElem? (i := 0) rfl) ?_
    refine uu_getc (ci := 9) (N := 6) fX9_17 (by decide) hk0.is (by decide) (c := 3) (by decide) (k2 := k0 + 3) rfl dX9_closeTrimmed_76 ?_
    refine uu_iload_n dX9_closeTrimmed_79 rfl (List.mem_of_getElem? (i := 1) rfl) ?_
    obtain ⟨v6, e7, h⟩ := uu_ob h
    refine uu_iald e7 dX9_closeTrimmed_80 ?_
    refine uu_iconst (v := 1) dX9_closeTrimmed_81 (by decide) ?_
    refine uu_isub dX9_closeTrimmed_82 ?_
    obtain ⟨v8, e9, h⟩ := uu_ob h
    refine uu_bald e9 dX9_closeTrimmed_83 ?_
    obtain ⟨v10, e11, h⟩ := uu_ob h
    refine uu_cs (d1 := 0) (As := [.int v8]) (st := []) (st' := [.int (bI v10)]) (xc_X9_isBlank uk  e11) kX9_isBlank lX9_64 sX9_isBlank (by decide) (Nat.le_of_ble_eq_true rfl) dX9_closeTrimmed_84 rfl ?_
    refine uu_ifb_eq (tgt := 103) dX9_closeTrimmed_87 (by decide) (fun c12 => ?_) (fun c12 => ?_)
    · replace h := uu_neg c12 h
      have hr := Option.some.inj h
      subst hr
      exact uu_vret rfl dX9_closeTrimmed_103
    · replace h := uu_pos c12 h
      refine uu_aload_n dX9_closeTrimmed_90 rfl (List.mem_of_getElem? (i := 0) rfl) ?_
      refine uu_getc (ci := 9) (N := 6) fX9_17 (by decide) hk0.is (by decide) (c := 3) (by decide) (k2 := k0 + 3) rfl dX9_closeTrimmed_91 ?_
      refine uu_iload_n dX9_closeTrimmed_94 rfl (List.mem_of_getElem? (i := 1) rfl) ?_
      refine uu_dup2_11 dX9_closeTrimmed_95 rfl rfl ?_
      obtain ⟨v13, e14, h⟩ := uu_ob h
      refine uu_iald e14 dX9_closeTrimmed_96 ?_
      refine uu_iconst (v := 1) dX9_closeTrimmed_97 (by decide) ?_
      refine uu_isub dX9_closeTrimmed_98 ?_
      obtain ⟨s15, e16, h⟩ := uu_ob h
      refine uu_iast e16 dX9_closeTrimmed_99 ?_
      refine uu_goto (tgt := 56) dX9_closeTrimmed_100 (by decide) ?_
      exact hK56 k0 x1 hk0 _ _ h
def fn_X9_closeTrimmed_56  : Nat → Nat → Int32 → uS → Option uS
  | 0 => fun _ _ _ => none
  | n + 1 => fb_X9_closeTrimmed_56 (fn_X9_closeTrimmed_56  n)
set_option maxRecDepth 100000 in
set_option maxHeartbeats 4000000 in
theorem xn_X9_closeTrimmed_56 {l : Launch} {D : va_G} {A : Nat → ClassId} {B : Nat} {Z : State → Heap → Prop} {vF : Value} (uk : uK B Z vF)   : ∀ (n : Nat) (k0 : Nat) (x1 : Int32) (hk0 : uSo k0 9) (s : uS) (r : uS), fn_X9_closeTrimmed_56  n k0 x1 s = some r → GU l D A B Z mX9_closeTrimmed 1 (r, none) s 56 [(0, .ref (B + k0)), (1, .int x1)] [] := by
  intro n
  induction n with
  | zero => intro k0 x1 hk0 s r h
            cases h
  | succ n ih => intro k0 x1 hk0 s r h
                 exact xb_X9_closeTrimmed_56 uk ih hk0 h
def fb_X9_closeTrimmed_11 (K11 : Nat → Int32 → uS → Option uS) (k0 : Nat) (x1 : Int32) (s : uS) : Option uS := (iget 20 s (k0 + 2) x1).bind fun v1 => (iget 20 s (k0 + 3) x1).bind fun v3 => if v3 ≤ v1 then (fn_X9_closeTrimmed_56 uFu k0 x1 s) else ((iget 20 s (k0 + 2) x1).bind fun v6 => (iget 21 s (k0 + 1) v6).bind fun v8 => (fn_X9_isBlank v8 s).bind fun v10 => if v10 = true then ((iget 20 s (k0 + 2) x1).bind fun v13 => (iput 20 s (k0 + 2) x1 (v13 + 1)).bind fun s15 => K11 k0 x1 s15) else (fn_X9_closeTrimmed_56 uFu k0 x1 s))
set_option maxRecDepth 100000 in
set_option maxHeartbeats 4000000 in
theorem xb_X9_closeTrimmed_11 {l : Launch} {D : va_G} {A : Nat → ClassId} {B : Nat} {Z : State → Heap → Prop} {vF : Value} (uk : uK B Z vF) {K11 : Nat → Int32 → uS → Option uS} (hK11 : ∀ (k0 : Nat) (x1 : Int32) (hk0 : uSo k0 9) (s : uS) (r : uS), K11 k0 x1 s = some r → GU l D A B Z mX9_closeTrimmed 1 (r, none) s 11 [(0, .ref (B + k0)), (1, .int x1)] []) {k0 : Nat} {x1 : Int32} {s : uS} {r : uS} (hk0 : uSo k0 9) (h : fb_X9_closeTrimmed_11 K11 k0 x1 s = some r) : GU l D A B Z mX9_closeTrimmed 1 (r, none) s 11 [(0, .ref (B + k0)), (1, .int x1)] [] := by
  unfold fb_X9_closeTrimmed_11 at h
  refine uu_aload_n dX9_closeTrimmed_11 rfl (List.mem_of_getElem? (i := 0) rfl) ?_
  refine uu_getc (ci := 9) (N := 6) fX9_13 (by decide) hk0.is (by decide) (c := 2) (by decide) (k2 := k0 + 2) rfl dX9_closeTrimmed_12 ?_
  refine uu_iload_n dX9_closeTrimmed_15 rfl (List.mem_of_getElem? (i := 1) rfl) ?_
  obtain ⟨v1, e2, h⟩ := uu_ob h
  refine uu_iald e2 dX9_closeTrimmed_16 ?_
  refine uu_aload_n dX9_closeTrimmed_17 rfl (List.mem_of_getElem? (i := 0) rfl) ?_
  refine uu_getc (ci := 9) (N := 6) fX9_17 (by decide) hk0.is (by decide) (c := 3) (by decide) (k2 := k0 + 3) rfl dX9_closeTrimmed_18 ?_
  refine uu_iload_n dX9_closeTrimmed_21 rfl (List.mem_of_getElem? (i := 1) rfl) ?_
  obtain ⟨v3, e4, h⟩ := uu_ob h
  refine uu_iald e4 dX9_closeTrimmed_22 ?_
  refine uu_icmp_ge (tgt := 56) dX9_closeTrimmed_23 (by decide) (fun c5 => ?_) (fun c5 => ?_)
  · replace h := uu_pos c5 h
    exact xn_X9_closeTrimmed_56 uk  _ _ _ hk0 _ _ h
  · replace h := uu_neg c5 h
    refine uu_aload_n dX9_closeTrimmed_26 rfl (List.mem_of_getElem? (i := 0) rfl) ?_
    refine uu_getc (ci := 9) (N := 6) fX9_9 (by decide) hk0.is (by decide) (c := 1) (by decide) (k2 := k0 + 1) rfl dX9_closeTrimmed_27 ?_
    refine uu_aload_n dX9_closeTrimmed_30 rfl (List.mem_of_getElem? (i := 0) rfl) ?_
    refine uu_getc (ci := 9) (N := 6) fX9_13 (by decide) hk0.is (by decide) (c := 2) (by decide) (k2 := k0 + 2) rfl dX9_closeTrimmed_31 ?_
    refine uu_iload_n dX9_closeTrimmed_34 rfl (List.mem_of_getElem? (i := 1) rfl) ?_
    obtain ⟨v6, e7, h⟩ := uu_ob h
    refine uu_iald e7 dX9_closeTrimmed_35 ?_
    obtain ⟨v8, e9, h⟩ := uu_ob h
    refine uu_bald e9 dX9_closeTrimmed_36 ?_
    obtain ⟨v10, e11, h⟩ := uu_ob h
    refine uu_cs (d1 := 0) (As := [.int v8]) (st := []) (st' := [.int (bI v10)]) (xc_X9_isBlank uk  e11) kX9_isBlank lX9_64 sX9_isBlank (by decide) (Nat.le_of_ble_eq_true rfl) dX9_closeTrimmed_37 rfl ?_
    refine uu_ifb_eq (tgt := 56) dX9_closeTrimmed_40 (by decide) (fun c12 => ?_) (fun c12 => ?_)
    · replace h := uu_neg c12 h
      exact xn_X9_closeTrimmed_56 uk  _ _ _ hk0 _ _ h
    · replace h := uu_pos c12 h
      refine uu_aload_n dX9_closeTrimmed_43 rfl (List.mem_of_getElem? (i := 0) rfl) ?_
      refine uu_getc (ci := 9) (N := 6) fX9_13 (by decide) hk0.is (by decide) (c := 2) (by decide) (k2 := k0 + 2) rfl dX9_closeTrimmed_44 ?_
      refine uu_iload_n dX9_closeTrimmed_47 rfl (List.mem_of_getElem? (i := 1) rfl) ?_
      refine uu_dup2_11 dX9_closeTrimmed_48 rfl rfl ?_
      obtain ⟨v13, e14, h⟩ := uu_ob h
      refine uu_iald e14 dX9_closeTrimmed_49 ?_
      refine uu_iconst (v := 1) dX9_closeTrimmed_50 (by decide) ?_
      refine uu_iadd dX9_closeTrimmed_51 ?_
      obtain ⟨s15, e16, h⟩ := uu_ob h
      refine uu_iast e16 dX9_closeTrimmed_52 ?_
      refine uu_goto (tgt := 11) dX9_closeTrimmed_53 (by decide) ?_
      exact hK11 k0 x1 hk0 _ _ h
def fn_X9_closeTrimmed_11  : Nat → Nat → Int32 → uS → Option uS
  | 0 => fun _ _ _ => none
  | n + 1 => fb_X9_closeTrimmed_11 (fn_X9_closeTrimmed_11  n)
set_option maxRecDepth 100000 in
set_option maxHeartbeats 4000000 in
theorem xn_X9_closeTrimmed_11 {l : Launch} {D : va_G} {A : Nat → ClassId} {B : Nat} {Z : State → Heap → Prop} {vF : Value} (uk : uK B Z vF)   : ∀ (n : Nat) (k0 : Nat) (x1 : Int32) (hk0 : uSo k0 9) (s : uS) (r : uS), fn_X9_closeTrimmed_11  n k0 x1 s = some r → GU l D A B Z mX9_closeTrimmed 1 (r, none) s 11 [(0, .ref (B + k0)), (1, .int x1)] [] := by
  intro n
  induction n with
  | zero => intro k0 x1 hk0 s r h
            cases h
  | succ n ih => intro k0 x1 hk0 s r h
                 exact xb_X9_closeTrimmed_11 uk ih hk0 h
def fn_X9_closeTrimmed (k0 : Nat) (s : uS) : Option uS := (fn_X9_close k0 s).bind fun s1 => fn_X9_closeTrimmed_11 uFu k0 ((s1.I k0 3) - 1) s1
set_option maxRecDepth 100000 in
set_option maxHeartbeats 4000000 in
theorem xc_X9_closeTrimmed {l : Launch} {D : va_G} {A : Nat → ClassId} {B : Nat} {Z : State → Heap → Prop} {vF : Value} (uk : uK B Z vF) {k0 : Nat} {s : uS} {r : uS} (hk0 : uSo k0 9) (h : fn_X9_closeTrimmed k0 s = some r) : CU l D A B Z 1 mX9_closeTrimmed s [.ref (B + k0)] (r, none) := by
  unfold fn_X9_closeTrimmed at h
  refine cu_of rfl uk.1.1 (Nat.le_of_ble_eq_true rfl) ?_
  show GU _ _ _ _ _ _ _ _ _ 0 [(0, .ref (B + k0))] []
  refine uu_aload_n dX9_closeTrimmed_0 rfl (List.mem_of_getElem? (i := 0) rfl) ?_
  obtain ⟨s1, e2, h⟩ := uu_ob h
  refine uu_cv (d1 := 0) (k := k0) (ci := 9) (T := TX9) (N := 6) (As := []) (st := []) (st' := []) (xc_X9_close uk hk0 e2) hk0.is (by decide) rfl kX9_close lX9_61 sX9_close (by decide) (Nat.le_of_ble_eq_true rfl) dX9_closeTrimmed_1 rfl ?_
  refine uu_aload_n dX9_closeTrimmed_4 rfl (List.mem_of_getElem? (i := 0) rfl) ?_
  refine uu_geti (ci := 9) (N := 6) fX9_20 (by decide) hk0.is (by decide) (by decide) dX9_closeTrimmed_5 ?_
  refine uu_iconst (v := 1) dX9_closeTrimmed_8 (by decide) ?_
  refine uu_isub dX9_closeTrimmed_9 ?_
  refine uu_istore_n dX9_closeTrimmed_10 rfl (by decide) rfl ?_
  refine uu_lv [1, 0] (lv' := [(0, .ref (B + k0)), (1, .int ((s1.I k0 3) - 1))]) rfl ?_
  exact xn_X9_closeTrimmed_11 uk  _ _ _ hk0 _ _ h
abbrev mX6_gatherFlags : hM := (yX6_gatherFlags, cX6_gatherFlags, 5, none)
theorem dX6_gatherFlags_69 : decode cX6_gatherFlags 69 = .ok (.iload 4, 2) := by decide +kernel
theorem dX6_gatherFlags_71 : decode cX6_gatherFlags 71 = .ok (.ifCond .eq 10, 3) := by decide +kernel
theorem dX6_gatherFlags_81 : decode cX6_gatherFlags 81 = .ok (.iinc 2 1, 3) := by decide +kernel
theorem dX6_gatherFlags_84 : decode cX6_gatherFlags 84 = .ok (.iinc 3 1, 3) := by decide +kernel
theorem dX6_gatherFlags_87 : decode cX6_gatherFlags 87 = .ok (.goto (-83), 3) := by decide +kernel
theorem dX6_gatherFlags_74 : decode cX6_gatherFlags 74 = .ok (.aload_n 0, 1) := by decide +kernel
theorem dX6_gatherFlags_75 : decode cX6_gatherFlags 75 = .ok (.getfield 21, 3) := by decide +kernel
theorem lX6_72 : Cond.methodLink RX6 72 mX9_close.1 ∈ lw_g := h_t4 140 rfl rfl
theorem dX6_gatherFlags_78 : decode cX6_gatherFlags 78 = .ok (.invokevirtual 72, 3) := by decide +kernel
theorem dX6_gatherFlags_26 : decode cX6_gatherFlags 26 = .ok (.istore 4, 2) := by decide +kernel
theorem dX6_gatherFlags_28 : decode cX6_gatherFlags 28 = .ok (.iload_n 3, 1) := by decide +kernel
theorem dX6_gatherFlags_29 : decode cX6_gatherFlags 29 = .ok (.ldc 159, 2) := by decide +kernel
theorem lX6_161 : Cond.methodLink RX6 161 mJ0_length_8abf5.1 ∈ lw_g := h_t5 180 rfl rfl
theorem dX6_gatherFlags_31 : decode cX6_gatherFlags 31 = .ok (.invokevirtual 161, 3) := by decide +kernel
theorem dX6_gatherFlags_34 : decode cX6_gatherFlags 34 = .ok (.if_icmp .ge 35, 3) := by decide +kernel
theorem dX6_gatherFlags_37 : decode cX6_gatherFlags 37 = .ok (.ldc 159, 2) := by decide +kernel
theorem dX6_gatherFlags_39 : decode cX6_gatherFlags 39 = .ok (.iload_n 3, 1) := by decide +kernel
theorem lX6_167 : Cond.methodLink RX6 167 mJ0_charAt_5068e.1 ∈ lw_g := h_t5 181 rfl rfl
theorem dX6_gatherFlags_40 : decode cX6_gatherFlags 40 = .ok (.invokevirtual 167, 3) := by decide +kernel
theorem dX6_gatherFlags_43 : decode cX6_gatherFlags 43 = .ok (.bipush 32, 2) := by decide +kernel
theorem dX6_gatherFlags_45 : decode cX6_gatherFlags 45 = .ok (.if_icmp .eq 24, 3) := by decide +kernel
theorem dX6_gatherFlags_48 : decode cX6_gatherFlags 48 = .ok (.iload 4, 2) := by decide +kernel
theorem dX6_gatherFlags_50 : decode cX6_gatherFlags 50 = .ok (.ifCond .eq 34, 3) := by decide +kernel
theorem dX6_gatherFlags_53 : decode cX6_gatherFlags 53 = .ok (.aload_n 0, 1) := by decide +kernel
theorem dX6_gatherFlags_54 : decode cX6_gatherFlags 54 = .ok (.getfield 21, 3) := by decide +kernel
theorem dX6_gatherFlags_57 : decode cX6_gatherFlags 57 = .ok (.ldc 159, 2) := by decide +kernel
theorem dX6_gatherFlags_59 : decode cX6_gatherFlags 59 = .ok (.iload_n 3, 1) := by decide +kernel
theorem dX6_gatherFlags_60 : decode cX6_gatherFlags 60 = .ok (.invokevirtual 167, 3) := by decide +kernel
theorem lX6_98 : Cond.methodLink RX6 98 mX9_put.1 ∈ lw_g := h_t5 168 rfl rfl
theorem dX6_gatherFlags_63 : decode cX6_gatherFlags 63 = .ok (.invokevirtual 98, 3) := by decide +kernel
theorem dX6_gatherFlags_66 : decode cX6_gatherFlags 66 = .ok (.goto 18, 3) := by decide +kernel
theorem dX6_gatherFlags_4 : decode cX6_gatherFlags 4 = .ok (.iload_n 3, 1) := by decide +kernel
theorem dX6_gatherFlags_5 : decode cX6_gatherFlags 5 = .ok (.ldc 159, 2) := by decide +kernel
theorem dX6_gatherFlags_7 : decode cX6_gatherFlags 7 = .ok (.invokevirtual 161, 3) := by decide +kernel
theorem dX6_gatherFlags_10 : decode cX6_gatherFlags 10 = .ok (.if_icmp .gt 80, 3) := by decide +kernel
theorem dX6_gatherFlags_90 : decode cX6_gatherFlags 90 = .ok (.return_, 1) := by decide +kernel
theorem dX6_gatherFlags_13 : decode cX6_gatherFlags 13 = .ok (.iload_n 1, 1) := by decide +kernel
theorem dX6_gatherFlags_14 : decode cX6_gatherFlags 14 = .ok (.iload_n 2, 1) := by decide +kernel
theorem dX6_gatherFlags_15 : decode cX6_gatherFlags 15 = .ok (.ishr, 1) := by decide +kernel
theorem dX6_gatherFlags_16 : decode cX6_gatherFlags 16 = .ok (.iconst 1, 1) := by decide +kernel
theorem dX6_gatherFlags_17 : decode cX6_gatherFlags 17 = .ok (.iand, 1) := by decide +kernel
theorem dX6_gatherFlags_18 : decode cX6_gatherFlags 18 = .ok (.ifCond .eq 7, 3) := by decide +kernel
theorem dX6_gatherFlags_25 : decode cX6_gatherFlags 25 = .ok (.iconst 0, 1) := by decide +kernel
theorem dX6_gatherFlags_21 : decode cX6_gatherFlags 21 = .ok (.iconst 1, 1) := by decide +kernel
theorem dX6_gatherFlags_22 : decode cX6_gatherFlags 22 = .ok (.goto 4, 3) := by decide +kernel
theorem dX6_gatherFlags_0 : decode cX6_gatherFlags 0 = .ok (.iconst 0, 1) := by decide +kernel
theorem dX6_gatherFlags_1 : decode cX6_gatherFlags 1 = .ok (.istore_n 2, 1) := by decide +kernel
theorem dX6_gatherFlags_2 : decode cX6_gatherFlags 2 = .ok (.iconst 0, 1) := by decide +kernel
theorem dX6_gatherFlags_3 : decode cX6_gatherFlags 3 = .ok (.istore_n 3, 1) := by decide +kernel
def fb_X6_gatherFlags_69 (K4 : Int32 → Int32 → Int32 → uS → Option uS) (x1 : Int32) (x2 : Int32) (x3 : Int32) (b4 : Bool) (s : uS) : Option uS := if b4 = true then ((fn_X9_close 1062 s).bind fun s2 => K4 x1 (x2 + 1) (x3 + 1) s2) else (K4 x1 (x2 + 1) (x3 + 1) s)
set_option maxRecDepth 100000 in
set_option maxHeartbeats 4000000 in
theorem xb_X6_gatherFlags_69 {l : Launch} {D : va_G} {A : Nat → ClassId} {B : Nat} {Z : State → Heap → Prop} {vF : Value} (uk : uK B Z vF) {K4 : Int32 → Int32 → Int32 → uS → Option uS} (hK4 : ∀ (x1 : Int32) (x2 : Int32) (x3 : Int32)  (s : uS) (r : uS), K4 x1 x2 x3 s = some r → GU l D A B Z mX6_gatherFlags 4 (r, none) s 4 [(0, .ref (B + 1053)), (1, .int x1), (2, .int x2), (3, .int x3)] []) {x1 : Int32} {x2 : Int32} {x3 : Int32} {b4 : Bool} {s : uS} {r : uS}  (h : fb_X6_gatherFlags_69 K4 x1 x2 x3 b4 s = some r) : GU l D A B Z mX6_gatherFlags 4 (r, none) s 69 [(0, .ref (B + 1053)), (1, .int x1), (2, .int x2), (3, .int x3), (4, .int (bI b4))] [] := by
  unfold fb_X6_gatherFlags_69 at h
  refine uu_iload dX6_gatherFlags_69 (List.mem_of_getElem? (i := 4) rfl) ?_
  refine uu_ifb_eq (tgt := 81) dX6_gatherFlags_71 (by decide) (fun c1 => ?_) (fun c1 => ?_)
  · replace h := uu_neg c1 h
    refine uu_iinc (v := x2 + 1) dX6_gatherFlags_81 (k := 2) rfl rfl (by decide) rfl ?_
    refine uu_iinc (v := x3 + 1) dX6_gatherFlags_84 (k := 3) rfl rfl (by decide) rfl ?_
    refine uu_goto (tgt := 4) dX6_gatherFlags_87 (by decide) ?_
    refine uu_lv [2, 3, 1, 0] (lv' := [(0, .ref (B + 1053)), (1, .int x1), (2, .int (x2 + 1)), (3, .int (x3 + 1))]) rfl ?_
    exact hK4 x1 (x2 + 1) (x3 + 1) _ _ h
  · replace h := uu_pos c1 h
    refine uu_aload_n dX6_gatherFlags_74 rfl (List.mem_of_getElem? (i := 0) rfl) ?_
    refine uu_geta (ci := 6) (N := 6) fX6_21 (by decide) so_1053.is (by decide) (c := 1062) (by decide) dX6_gatherFlags_75 ?_
    obtain ⟨s2, e3, h⟩ := uu_ob h
    refine uu_cv (d1 := 0) (k := 1062) (ci := 9) (T := TX9) (N := 6) (As := []) (st := []) (st' := []) (xc_X9_close uk so_1062 e3) so_1062.is (by decide) rfl kX9_close lX6_72 sX9_close (by decide) (Nat.le_of_ble_eq_true rfl) dX6_gatherFlags_78 rfl ?_
    refine uu_iinc (v := x2 + 1) dX6_gatherFlags_81 (k := 2) rfl rfl (by decide) rfl ?_
    refine uu_iinc (v := x3 + 1) dX6_gatherFlags_84 (k := 3) rfl rfl (by decide) rfl ?_
    refine uu_goto (tgt := 4) dX6_gatherFlags_87 (by decide) ?_
    refine uu_lv [2, 3, 1, 0] (lv' := [(0, .ref (B + 1053)), (1, .int x1), (2, .int (x2 + 1)), (3, .int (x3 + 1))]) rfl ?_
    exact hK4 x1 (x2 + 1) (x3 + 1) _ _ h
def fb_X6_gatherFlags_26 (K4 : Int32 → Int32 → Int32 → uS → Option uS) (x1 : Int32) (x2 : Int32) (x3 : Int32) (bs0 : Bool) (s : uS) : Option uS := if (nI kW_51.length) ≤ x3 then (fb_X6_gatherFlags_69 K4 x1 x2 x3 bs0 s) else ((stget kW_51 x3).bind fun v4 => if v4 = 32 then (fb_X6_gatherFlags_69 K4 x1 x2 x3 bs0 s) else (if bs0 = true then ((stget kW_51 x3).bind fun v9 => (fn_X9_put 1062 v9 s).bind fun s11 => K4 x1 x2 (x3 + 1) s11) else (K4 x1 x2 (x3 + 1) s)))
set_option maxRecDepth 100000 in
set_option maxHeartbeats 4000000 in
theorem xb_X6_gatherFlags_26 {l : Launch} {D : va_G} {A : Nat → ClassId} {B : Nat} {Z : State → Heap → Prop} {vF : Value} (uk : uK B Z vF) {K4 : Int32 → Int32 → Int32 → uS → Option uS} (hK4 : ∀ (x1 : Int32) (x2 : Int32) (x3 : Int32)  (s : uS) (r : uS), K4 x1 x2 x3 s = some r → GU l D A B Z mX6_gatherFlags 4 (r, none) s 4 [(0, .ref (B + 1053)), (1, .int x1), (2, .int x2), (3, .int x3)] []) {x1 : Int32} {x2 : Int32} {x3 : Int32} {bs0 : Bool} {s : uS} {r : uS}  (h : fb_X6_gatherFlags_26 K4 x1 x2 x3 bs0 s = some r) : GU l D A B Z mX6_gatherFlags 4 (r, none) s 26 [(0, .ref (B + 1053)), (1, .int x1), (2, .int x2), (3, .int x3)] [.int (bI bs0)] := by
  unfold fb_X6_gatherFlags_26 at h
  refine uu_istore dX6_gatherFlags_26 (by decide) rfl ?_
  refine uu_iload_n dX6_gatherFlags_28 rfl (List.mem_of_getElem? (i := 4) rfl) ?_
  obtain ⟨cq1, cp1, cv1, cw1⟩ := uk.2.1 51 _ rfl
  refine uu_ldcS cv1 dX6_gatherFlags_29 ?_
  refine uu_slen uk cw1 lX6_161 (by decide) (Nat.le_of_ble_eq_true rfl) dX6_gatherFlags_31 ?_
  refine uu_icmp_ge (tgt := 69) dX6_gatherFlags_34 (by decide) (fun c2 => ?_) (fun c2 => ?_)
  · replace h := uu_pos c2 h
    refine uu_lv [1, 2, 3, 4, 0] (lv' := [(0, .ref (B + 1053)), (1, .int x1), (2, .int x2), (3, .int x3), (4, .int (bI bs0))]) rfl ?_
    exact xb_X6_gatherFlags_69 uk hK4 h
  · replace h := uu_neg c2 h
    obtain ⟨cq3, cp3, cv3, cw3⟩ := uk.2.1 51 _ rfl
    refine uu_ldcS cv3 dX6_gatherFlags_37 ?_
    refine uu_iload_n dX6_gatherFlags_39 rfl (List.mem_of_getElem? (i := 4) rfl) ?_
    obtain ⟨v4, e5, h⟩ := uu_ob h
    refine uu_sch uk cw3 e5 lX6_167 (by decide) (Nat.le_of_ble_eq_true rfl) dX6_gatherFlags_40 ?_
    refine uu_bipush (v := 32) dX6_gatherFlags_43 (by decide) ?_
    refine uu_icmp_eq (tgt := 69) dX6_gatherFlags_45 (by decide) (fun c6 => ?_) (fun c6 => ?_)
    · replace h := uu_pos c6 h
      refine uu_lv [1, 2, 3, 4, 0] (lv' := [(0, .ref (B + 1053)), (1, .int x1), (2, .int x2), (3, .int x3), (4, .int (bI bs0))]) rfl ?_
      exact xb_X6_gatherFlags_69 uk hK4 h
    · replace h := uu_neg c6 h
      refine uu_iload dX6_gatherFlags_48 (List.mem_of_getElem? (i := 0) rfl) ?_
      refine uu_ifb_eq (tgt := 84) dX6_gatherFlags_50 (by decide) (fun c7 => ?_) (fun c7 => ?_)
      · replace h := uu_neg c7 h
        refine uu_iinc (v := x3 + 1) dX6_gatherFlags_84 (k := 4) rfl rfl (by decide) rfl ?_
        refine uu_goto (tgt := 4) dX6_gatherFlags_87 (by decide) ?_
        refine uu_lv [2, 3, 4, 0] (lv' := [(0, .ref (B + 1053)), (1, .int x1), (2, .int x2), (3, .int (x3 + 1))]) rfl ?_
        exact hK4 x1 x2 (x3 + 1) _ _ h
      · replace h := uu_pos c7 h
        refine uu_aload_n dX6_gatherFlags_53 rfl (List.mem_of_getElem? (i := 1) rfl) ?_
        refine uu_geta (ci := 6) (N := 6) fX6_21 (by decide) so_1053.is (by decide) (c := 1062) (by decide) dX6_gatherFlags_54 ?_
        obtain ⟨cq8, cp8, cv8, cw8⟩ := uk.2.1 51 _ rfl
        refine uu_ldcS cv8 dX6_gatherFlags_57 ?_
        refine uu_iload_n dX6_gatherFlags_59 rfl (List.mem_of_getElem? (i := 4) rfl) ?_
        obtain ⟨v9, e10, h⟩ := uu_ob h
        refine uu_sch uk cw8 e10 lX6_167 (by decide) (Nat.le_of_ble_eq_true rfl) dX6_gatherFlags_60 ?_
        obtain ⟨s11, e12, h⟩ := uu_ob h
        refine uu_cv (d1 := 0) (k := 1062) (ci := 9) (T := TX9) (N := 6) (As := [.int v9]) (st := []) (st' := []) (xc_X9_put uk so_1062 e12) so_1062.is (by decide) rfl kX9_put lX6_98 sX9_put (by decide) (Nat.le_of_ble_eq_true rfl) dX6_gatherFlags_63 rfl ?_
        refine uu_goto (tgt := 84) dX6_gatherFlags_66 (by decide) ?_
        refine uu_iinc (v := x3 + 1) dX6_gatherFlags_84 (k := 4) rfl rfl (by decide) rfl ?_
        refine uu_goto (tgt := 4) dX6_gatherFlags_87 (by decide) ?_
        refine uu_lv [2, 3, 4, 0] (lv' := [(0, .ref (B + 1053)), (1, .int x1), (2, .int x2), (3, .int (x3 + 1))]) rfl ?_
        exact hK4 x1 x2 (x3 + 1) _ _ h
def fb_X6_gatherFlags_4 (K4 : Int32 → Int32 → Int32 → uS → Option uS) (x1 : Int32) (x2 : Int32) (x3 : Int32) (s : uS) : Option uS := if (nI kW_51.length) < x3 then (some s) else (if ((x1 >>> (x2 &&& 31)) &&& 1) = 0 then (fb_X6_gatherFlags_26 K4 x1 x2 x3 false s) else (fb_X6_gatherFlags_26 K4 x1 x2 x3 true s))
set_option maxRecDepth 100000 in
set_option maxHeartbeats 4000000 in
theorem xb_X6_gatherFlags_4 {l : Launch} {D : va_G} {A : Nat → ClassId} {B : Nat} {Z : State → Heap → Prop} {vF : Value} (uk : uK B Z vF) {K4 : Int32 → Int32 → Int32 → uS → Option uS} (hK4 : ∀ (x1 : Int32) (x2 : Int32) (x3 : Int32)  (s : uS) (r : uS), K4 x1 x2 x3 s = some r → GU l D A B Z mX6_gatherFlags 4 (r, none) s 4 [(0, .ref (B + 1053)), (1, .int x1), (2, .int x2), (3, .int x3)] []) {x1 : Int32} {x2 : Int32} {x3 : Int32} {s : uS} {r : uS}  (h : fb_X6_gatherFlags_4 K4 x1 x2 x3 s = some r) : GU l D A B Z mX6_gatherFlags 4 (r, none) s 4 [(0, .ref (B + 1053)), (1, .int x1), (2, .int x2), (3, .int x3)] [] := by
  unfold fb_X6_gatherFlags_4 at h
  refine uu_iload_n dX6_gatherFlags_4 rfl (List.mem_of_getElem? (i := 3) rfl) ?_
  obtain ⟨cq1, cp1, cv1, cw1⟩ := uk.2.1 51 _ rfl
  refine uu_ldcS cv1 dX6_gatherFlags_5 ?_
  refine uu_slen uk cw1 lX6_161 (by decide) (Nat.le_of_ble_eq_true rfl) dX6_gatherFlags_7 ?_
  refine uu_icmp_gt (tgt := 90) dX6_gatherFlags_10 (by decide) (fun c2 => ?_) (fun c2 => ?_)
  · replace h := uu_pos c2 h
    have hr := Option.some.inj h
    subst hr
    exact uu_vret rfl dX6_gatherFlags_90
  · replace h := uu_neg c2 h
    refine uu_iload_n dX6_gatherFlags_13 rfl (List.mem_of_getElem? (i := 1) rfl) ?_
    refine uu_iload_n dX6_gatherFlags_14 rfl (List.mem_of_getElem? (i := 2) rfl) ?_
    refine uu_ishr dX6_gatherFlags_15 ?_
    refine uu_iconst (v := 1) dX6_gatherFlags_16 (by decide) ?_
    refine uu_iand dX6_gatherFlags_17 ?_
    refine uu_if_eq (tgt := 25) dX6_gatherFlags_18 (by decide) (fun c3 => ?_) (fun c3 => ?_)
    · replace h := uu_pos c3 h
      refine uu_iconst (v := 0) dX6_gatherFlags_25 (by decide) ?_
      exact xb_X6_gatherFlags_26 uk hK4 h
    · replace h := uu_neg c3 h
      refine uu_iconst (v := 1) dX6_gatherFlags_21 (by decide) ?_
      refine uu_goto (tgt := 26) dX6_gatherFlags_22 (by decide) ?_
      exact xb_X6_gatherFlags_26 uk hK4 h
def fn_X6_gatherFlags_4  : Nat → Int32 → Int32 → Int32 → uS → Option uS
  | 0 => fun _ _ _ _ => none
  | n + 1 => fb_X6_gatherFlags_4 (fn_X6_gatherFlags_4  n)
set_option maxRecDepth 100000 in
set_option maxHeartbeats 4000000 in
theorem xn_X6_gatherFlags_4 {l : Launch} {D : va_G} {A : Nat → ClassId} {B : Nat} {Z : State → Heap → Prop} {vF : Value} (uk : uK B Z vF)   : ∀ (n : Nat) (x1 : Int32) (x2 : Int32) (x3 : Int32)  (s : uS) (r : uS), fn_X6_gatherFlags_4  n x1 x2 x3 s = some r → GU l D A B Z mX6_gatherFlags 4 (r, none) s 4 [(0, .ref (B + 1053)), (1, .int x1), (2, .int x2), (3, .int x3)] [] := by
  intro n
  induction n with
  | zero => intro x1 x2 x3 s r h
            cases h
  | succ n ih => intro x1 x2 x3 s r h
                 exact xb_X6_gatherFlags_4 uk ih  h
def fn_X6_gatherFlags (x1 : Int32) (s : uS) : Option uS := fn_X6_gatherFlags_4 uFu x1 0 0 s
set_option maxRecDepth 100000 in
set_option maxHeartbeats 4000000 in
theorem xc_X6_gatherFlags {l : Launch} {D : va_G} {A : Nat → ClassId} {B : Nat} {Z : State → Heap → Prop} {vF : Value} (uk : uK B Z vF) {x1 : Int32} {s : uS} {r : uS}  (h : fn_X6_gatherFlags x1 s = some r) : CU l D A B Z 4 mX6_gatherFlags s [.ref (B + 1053), .int x1] (r, none) := by
  unfold fn_X6_gatherFlags at h
  refine cu_of rfl uk.1.1 (Nat.le_of_ble_eq_true rfl) ?_
  show GU _ _ _ _ _ _ _ _ _ 0 [(0, .ref (B + 1053)), (1, .int x1)] []
  refine uu_iconst (v := 0) dX6_gatherFlags_0 (by decide) ?_
  refine uu_istore_n dX6_gatherFlags_1 rfl (by decide) rfl ?_
  refine uu_iconst (v := 0) dX6_gatherFlags_2 (by decide) ?_
  refine uu_istore_n dX6_gatherFlags_3 rfl (by decide) rfl ?_
  refine uu_lv [2, 3, 1, 0] (lv' := [(0, .ref (B + 1053)), (1, .int x1), (2, .int 0), (3, .int 0)]) rfl ?_
  exact xn_X6_gatherFlags_4 uk  _ _ _ _ _ _ h
abbrev mX9_isSameAt : hM := (yX9_isSameAt, cX9_isSameAt, 10, (some (.boolean)))
theorem dX9_isSameAt_61 : decode cX9_isSameAt 61 = .ok (.istore 9, 2) := by decide +kernel
theorem dX9_isSameAt_63 : decode cX9_isSameAt 63 = .ok (.iload 7, 2) := by decide +kernel
theorem dX9_isSameAt_65 : decode cX9_isSameAt 65 = .ok (.aload_n 2, 1) := by decide +kernel
theorem dX9_isSameAt_66 : decode cX9_isSameAt 66 = .ok (.iload_n 3, 1) := by decide +kernel
theorem dX9_isSameAt_67 : decode cX9_isSameAt 67 = .ok (.iload 6, 2) := by decide +kernel
theorem dX9_isSameAt_69 : decode cX9_isSameAt 69 = .ok (.iadd, 1) := by decide +kernel
theorem dX9_isSameAt_70 : decode cX9_isSameAt 70 = .ok (.baload, 1) := by decide +kernel
theorem dX9_isSameAt_71 : decode cX9_isSameAt 71 = .ok (.if_icmp .eq 15, 3) := by decide +kernel
theorem dX9_isSameAt_86 : decode cX9_isSameAt 86 = .ok (.iinc 6 1, 3) := by decide +kernel
theorem dX9_isSameAt_89 : decode cX9_isSameAt 89 = .ok (.goto (-86), 3) := by decide +kernel
theorem dX9_isSameAt_74 : decode cX9_isSameAt 74 = .ok (.iload 5, 2) := by decide +kernel
theorem dX9_isSameAt_76 : decode cX9_isSameAt 76 = .ok (.ifCond .eq 8, 3) := by decide +kernel
theorem dX9_isSameAt_84 : decode cX9_isSameAt 84 = .ok (.iconst 0, 1) := by decide +kernel
theorem dX9_isSameAt_85 : decode cX9_isSameAt 85 = .ok (.ireturn, 1) := by decide +kernel
theorem dX9_isSameAt_79 : decode cX9_isSameAt 79 = .ok (.iload 9, 2) := by decide +kernel
theorem dX9_isSameAt_81 : decode cX9_isSameAt 81 = .ok (.ifCond .ne 5, 3) := by decide +kernel
theorem dX9_isSameAt_3 : decode cX9_isSameAt 3 = .ok (.iload 6, 2) := by decide +kernel
theorem dX9_isSameAt_5 : decode cX9_isSameAt 5 = .ok (.iload 4, 2) := by decide +kernel
theorem dX9_isSameAt_7 : decode cX9_isSameAt 7 = .ok (.if_icmp .ge 85, 3) := by decide +kernel
theorem dX9_isSameAt_92 : decode cX9_isSameAt 92 = .ok (.iconst 1, 1) := by decide +kernel
theorem dX9_isSameAt_93 : decode cX9_isSameAt 93 = .ok (.ireturn, 1) := by decide +kernel
theorem dX9_isSameAt_10 : decode cX9_isSameAt 10 = .ok (.aload_n 0, 1) := by decide +kernel
theorem dX9_isSameAt_11 : decode cX9_isSameAt 11 = .ok (.getfield 9, 3) := by decide +kernel
theorem dX9_isSameAt_14 : decode cX9_isSameAt 14 = .ok (.iload_n 1, 1) := by decide +kernel
theorem dX9_isSameAt_15 : decode cX9_isSameAt 15 = .ok (.iload 6, 2) := by decide +kernel
theorem dX9_isSameAt_17 : decode cX9_isSameAt 17 = .ok (.iadd, 1) := by decide +kernel
theorem dX9_isSameAt_18 : decode cX9_isSameAt 18 = .ok (.baload, 1) := by decide +kernel
theorem dX9_isSameAt_19 : decode cX9_isSameAt 19 = .ok (.istore 7, 2) := by decide +kernel
theorem dX9_isSameAt_21 : decode cX9_isSameAt 21 = .ok (.iload 7, 2) := by decide +kernel
theorem dX9_isSameAt_23 : decode cX9_isSameAt 23 = .ok (.bipush 32, 2) := by decide +kernel
theorem dX9_isSameAt_25 : decode cX9_isSameAt 25 = .ok (.ior, 1) := by decide +kernel
theorem dX9_isSameAt_26 : decode cX9_isSameAt 26 = .ok (.istore 8, 2) := by decide +kernel
theorem dX9_isSameAt_28 : decode cX9_isSameAt 28 = .ok (.iload 8, 2) := by decide +kernel
theorem dX9_isSameAt_30 : decode cX9_isSameAt 30 = .ok (.bipush 97, 2) := by decide +kernel
theorem dX9_isSameAt_32 : decode cX9_isSameAt 32 = .ok (.if_icmp .lt 28, 3) := by decide +kernel
theorem dX9_isSameAt_60 : decode cX9_isSameAt 60 = .ok (.iconst 0, 1) := by decide +kernel
theorem dX9_isSameAt_35 : decode cX9_isSameAt 35 = .ok (.iload 8, 2) := by decide +kernel
theorem dX9_isSameAt_37 : decode cX9_isSameAt 37 = .ok (.bipush 122, 2) := by decide +kernel
theorem dX9_isSameAt_39 : decode cX9_isSameAt 39 = .ok (.if_icmp .gt 21, 3) := by decide +kernel
theorem dX9_isSameAt_42 : decode cX9_isSameAt 42 = .ok (.iload 7, 2) := by decide +kernel
theorem dX9_isSameAt_44 : decode cX9_isSameAt 44 = .ok (.aload_n 2, 1) := by decide +kernel
theorem dX9_isSameAt_45 : decode cX9_isSameAt 45 = .ok (.iload_n 3, 1) := by decide +kernel
theorem dX9_isSameAt_46 : decode cX9_isSameAt 46 = .ok (.iload 6, 2) := by decide +kernel
theorem dX9_isSameAt_48 : decode cX9_isSameAt 48 = .ok (.iadd, 1) := by decide +kernel
theorem dX9_isSameAt_49 : decode cX9_isSameAt 49 = .ok (.baload, 1) := by decide +kernel
theorem dX9_isSameAt_50 : decode cX9_isSameAt 50 = .ok (.ixor, 1) := by decide +kernel
theorem dX9_isSameAt_51 : decode cX9_isSameAt 51 = .ok (.bipush 32, 2) := by decide +kernel
theorem dX9_isSameAt_53 : decode cX9_isSameAt 53 = .ok (.if_icmp .ne 7, 3) := by decide +kernel
theorem dX9_isSameAt_56 : decode cX9_isSameAt 56 = .ok (.iconst 1, 1) := by decide +kernel
theorem dX9_isSameAt_57 : decode cX9_isSameAt 57 = .ok (.goto 4, 3) := by decide +kernel
theorem dX9_isSameAt_0 : decode cX9_isSameAt 0 = .ok (.iconst 0, 1) := by decide +kernel
theorem dX9_isSameAt_1 : decode cX9_isSameAt 1 = .ok (.istore 6, 2) := by decide +kernel
def fb_X9_isSameAt_61 (K3 : Nat → Int32 → Nat → Int32 → Int32 → Bool → Int32 → uS → Option Bool) (k0 : Nat) (x1 : Int32) (k2 : Nat) (x3 : Int32) (x4 : Int32) (b5 : Bool) (x6 : Int32) (x7 : Int32) (bs0 : Bool) (s : uS) : Option Bool := (iget 21 s k2 (x3 + x6)).bind fun v1 => if x7 = v1 then (K3 k0 x1 k2 x3 x4 b5 (x6 + 1) s) else (if b5 = true then (if bs0 = true then (K3 k0 x1 k2 x3 x4 b5 (x6 + 1) s) else (some false)) else (some false))
set_option maxRecDepth 100000 in
set_option maxHeartbeats 4000000 in
theorem xb_X9_isSameAt_61 {l : Launch} {D : va_G} {A : Nat → ClassId} {B : Nat} {Z : State → Heap → Prop} {vF : Value} (uk : uK B Z vF) {K3 : Nat → Int32 → Nat → Int32 → Int32 → Bool → Int32 → uS → Option Bool} (hK3 : ∀ (k0 : Nat) (x1 : Int32) (k2 : Nat) (x3 : Int32) (x4 : Int32) (b5 : Bool) (x6 : Int32) (hk0 : uSo k0 9) (s : uS) (r : Bool), K3 k0 x1 k2 x3 x4 b5 x6 s = some r → GU l D A B Z mX9_isSameAt 0 (s, some (.int (bI r))) s 3 [(0, .ref (B + k0)), (1, .int x1), (2, .ref (B + k2)), (3, .int x3), (4, .int x4), (5, .int (bI b5)), (6, .int x6)] []) {k0 : Nat} {x1 : Int32} {k2 : Nat} {x3 : Int32} {x4 : Int32} {b5 : Bool} {x6 : Int32} {x7 : Int32} {bs0 : Bool} {s : uS} {r : Bool} (hk0 : uSo k0 9) (h : fb_X9_isSameAt_61 K3 k0 x1 k2 x3 x4 b5 x6 x7 bs0 s = some r) : GU l D A B Z mX9_isSameAt 0 (s, some (.int (bI r))) s 61 [(0, .ref (B + k0)), (1, .int x1), (2, .ref (B + k2)), (3, .int x3), (4, .int x4), (5, .int (bI b5)), (6, .int x6), (7, .int x7)] [.int (bI bs0)] := by
  unfold fb_X9_isSameAt_61 at h
  refine uu_istore dX9_isSameAt_61 (by decide) rfl ?_
  refine uu_iload dX9_isSameAt_63 (List.mem_of_getElem? (i := 8) rfl) ?_
  refine uu_aload_n dX9_isSameAt_65 rfl (List.mem_of_getElem? (i := 3) rfl) ?_
  refine uu_iload_n dX9_isSameAt_66 rfl (List.mem_of_getElem? (i := 4) rfl) ?_
  refine uu_iload dX9_isSameAt_67 (List.mem_of_getElem? (i := 7) rfl) ?_
  refine uu_iadd dX9_isSameAt_69 ?_
  obtain ⟨v1, e2, h⟩ := uu_ob h
  refine uu_bald e2 dX9_isSameAt_70 ?_
  refine uu_icmp_eq (tgt := 86) dX9_isSameAt_71 (by decide) (fun c3 => ?_) (fun c3 => ?_)
  · replace h := uu_pos c3 h
    refine uu_iinc (v := x6 + 1) dX9_isSameAt_86 (k := 7) rfl rfl (by decide) rfl ?_
    refine uu_goto (tgt := 3) dX9_isSameAt_89 (by decide) ?_
    refine uu_lv [2, 3, 4, 5, 6, 7, 0] (lv' := [(0, .ref (B + k0)), (1, .int x1), (2, .ref (B + k2)), (3, .int x3), (4, .int x4), (5, .int (bI b5)), (6, .int (x6 + 1))]) rfl ?_
    exact hK3 k0 x1 k2 x3 x4 b5 (x6 + 1) hk0 _ _ h
  · replace h := uu_neg c3 h
    refine uu_iload dX9_isSameAt_74 (List.mem_of_getElem? (i := 6) rfl) ?_
    refine uu_ifb_eq (tgt := 84) dX9_isSameAt_76 (by decide) (fun c4 => ?_) (fun c4 => ?_)
    · replace h := uu_neg c4 h
      refine uu_iconst (v := 0) dX9_isSameAt_84 (by decide) ?_
      have hr := Option.some.inj h
      subst hr
      exact uu_zret (x := bI false) rfl (bI_z _) dX9_isSameAt_85
    · replace h := uu_pos c4 h
      refine uu_iload dX9_isSameAt_79 (List.mem_of_getElem? (i := 0) rfl) ?_
      refine uu_ifb_ne (tgt := 86) dX9_isSameAt_81 (by decide) (fun c5 => ?_) (fun c5 => ?_)
      · replace h := uu_pos c5 h
        refine uu_iinc (v := x6 + 1) dX9_isSameAt_86 (k := 7) rfl rfl (by decide) rfl ?_
        refine uu_goto (tgt := 3) dX9_isSameAt_89 (by decide) ?_
        refine uu_lv [2, 3, 4, 5, 6, 7, 0] (lv' := [(0, .ref (B + k0)), (1, .int x1), (2, .ref (B + k2)), (3, .int x3), (4, .int x4), (5, .int (bI b5)), (6, .int (x6 + 1))]) rfl ?_
        exact hK3 k0 x1 k2 x3 x4 b5 (x6 + 1) hk0 _ _ h
      · replace h := uu_neg c5 h
        refine uu_iconst (v := 0) dX9_isSameAt_84 (by decide) ?_
        have hr := Option.some.inj h
        subst hr
        exact uu_zret (x := bI false) rfl (bI_z _) dX9_isSameAt_85
def fb_X9_isSameAt_3 (K3 : Nat → Int32 → Nat → Int32 → Int32 → Bool → Int32 → uS → Option Bool) (k0 : Nat) (x1 : Int32) (k2 : Nat) (x3 : Int32) (x4 : Int32) (b5 : Bool) (x6 : Int32) (s : uS) : Option Bool := if x4 ≤ x6 then (some true) else ((iget 21 s (k0 + 1) (x1 + x6)).bind fun v2 => if (v2 ||| 32) < 97 then (fb_X9_isSameAt_61 K3 k0 x1 k2 x3 x4 b5 x6 v2 false s) else (if (122 : Int32) < (v2 ||| 32) then (fb_X9_isSameAt_61 K3 k0 x1 k2 x3 x4 b5 x6 v2 false s) else ((iget 21 s k2 (x3 + x6)).bind fun v6 => if (v2 ^^^ v6) = 32 then (fb_X9_isSameAt_61 K3 k0 x1 k2 x3 x4 b5 x6 v2 true s) else (fb_X9_isSameAt_61 K3 k0 x1 k2 x3 x4 b5 x6 v2 false s))))
set_option maxRecDepth 100000 in
set_option maxHeartbeats 4000000 in
theorem xb_X9_isSameAt_3 {l : Launch} {D : va_G} {A : Nat → ClassId} {B : Nat} {Z : State → Heap → Prop} {vF : Value} (uk : uK B Z vF) {K3 : Nat → Int32 → Nat → Int32 → Int32 → Bool → Int32 → uS → Option Bool} (hK3 : ∀ (k0 : Nat) (x1 : Int32) (k2 : Nat) (x3 : Int32) (x4 : Int32) (b5 : Bool) (x6 : Int32) (hk0 : uSo k0 9) (s : uS) (r : Bool), K3 k0 x1 k2 x3 x4 b5 x6 s = some r → GU l D A B Z mX9_isSameAt 0 (s, some (.int (bI r))) s 3 [(0, .ref (B + k0)), (1, .int x1), (2, .ref (B + k2)), (3, .int x3), (4, .int x4), (5, .int (bI b5)), (6, .int x6)] []) {k0 : Nat} {x1 : Int32} {k2 : Nat} {x3 : Int32} {x4 : Int32} {b5 : Bool} {x6 : Int32} {s : uS} {r : Bool} (hk0 : uSo k0 9) (h : fb_X9_isSameAt_3 K3 k0 x1 k2 x3 x4 b5 x6 s = some r) : GU l D A B Z mX9_isSameAt 0 (s, some (.int (bI r))) s 3 [(0, .ref (B + k0)), (1, .int x1), (2, .ref (B + k2)), (3, .int x3), (4, .int x4), (5, .int (bI b5)), (6, .int x6)] [] := by
  unfold fb_X9_isSameAt_3 at h
  refine uu_iload dX9_isSameAt_3 (List.mem_of_getElem? (i := 6) rfl) ?_
  refine uu_iload dX9_isSameAt_5 (List.mem_of_getElem? (i := 4) rfl) ?_
  refine uu_icmp_ge (tgt := 92) dX9_isSameAt_7 (by decide) (fun c1 => ?_) (fun c1 => ?_)
  · replace h := uu_pos c1 h
    refine uu_iconst (v := 1) dX9_isSameAt_92 (by decide) ?_
    have hr := Option.some.inj h
    subst hr
    exact uu_zret (x := bI true) rfl (bI_z _) dX9_isSameAt_93
  · replace h := uu_neg c1 h
    refine uu_aload_n dX9_isSameAt_10 rfl (List.mem_of_getElem? (i := 0) rfl) ?_
    refine uu_getc (ci := 9) (N := 6) fX9_9 (by decide) hk0.is (by decide) (c := 1) (by decide) (k2 := k0 + 1) rfl dX9_isSameAt_11 ?_
    refine uu_iload_n dX9_isSameAt_14 rfl (List.mem_of_getElem? (i := 1) rfl) ?_
    refine uu_iload dX9_isSameAt_15 (List.mem_of_getElem? (i := 6) rfl) ?_
    refine uu_iadd dX9_isSameAt_17 ?_
    obtain ⟨v2, e3, h⟩ := uu_ob h
    refine uu_bald e3 dX9_isSameAt_18 ?_
    refine uu_istore dX9_isSameAt_19 (by decide) rfl ?_
    refine uu_iload dX9_isSameAt_21 (List.mem_of_getElem? (i := 0) rfl) ?_
    refine uu_bipush (v := 32) dX9_isSameAt_23 (by decide) ?_
    refine uu_ior dX9_isSameAt_25 ?_
    refine uu_istore dX9_isSameAt_26 (by decide) rfl ?_
    refine uu_iload dX9_isSameAt_28 (List.mem_of_getElem? (i := 0) rfl) ?_
    refine uu_bipush (v := 97) dX9_isSameAt_30 (by decide) ?_
    refine uu_icmp_lt (tgt := 60) dX9_isSameAt_32 (by decide) (fun c4 => ?_) (fun c4 => ?_)
    · replace h := uu_pos c4 h
      refine uu_iconst (v := 0) dX9_isSameAt_60 (by decide) ?_
      refine uu_lv [2, 3, 4, 5, 6, 7, 8, 1] (lv' := [(0, .ref (B + k0)), (1, .int x1), (2, .ref (B + k2)), (3, .int x3), (4, .int x4), (5, .int (bI b5)), (6, .int x6), (7, .int v2)]) rfl ?_
      exact xb_X9_isSameAt_61 uk hK3 hk0 h
    · replace h := uu_neg c4 h
      refine uu_iload dX9_isSameAt_35 (List.mem_of_getElem? (i := 0) rfl) ?_
      refine uu_bipush (v := 122) dX9_isSameAt_37 (by decide) ?_
      refine uu_icmp_gt (tgt := 60) dX9_isSameAt_39 (by decide) (fun c5 => ?_) (fun c5 => ?_)
      · replace h := uu_pos c5 h
        refine uu_iconst (v := 0) dX9_isSameAt_60 (by decide) ?_
        refine uu_lv [2, 3, 4, 5, 6, 7, 8, 1] (lv' := [(0, .ref (B + k0)), (1, .int x1), (2, .ref (B + k2)), (3, .int x3), (4, .int x4), (5, .int (bI b5)), (6, .int x6), (7, .int v2)]) rfl ?_
        exact xb_X9_isSameAt_61 uk hK3 hk0 h
      · replace h := uu_neg c5 h
        refine uu_iload dX9_isSameAt_42 (List.mem_of_getElem? (i := 1) rfl) ?_
        refine uu_aload_n dX9_isSameAt_44 rfl (List.mem_of_getElem? (i := 4) rfl) ?_
        refine uu_iload_n dX9_isSameAt_45 rfl (List.mem_of_getElem? (i := 5) rfl) ?_
        refine uu_iload dX9_isSameAt_46 (List.mem_of_getElem? (i := 8) rfl) ?_
        refine uu_iadd dX9_isSameAt_48 ?_
        obtain ⟨v6, e7, h⟩ := uu_ob h
        refine uu_bald e7 dX9_isSameAt_49 ?_
        refine uu_ixor dX9_isSameAt_50 ?_
        refine uu_bipush (v := 32) dX9_isSameAt_51 (by decide) ?_
        refine uu_icmp_ne (tgt := 60) dX9_isSameAt_53 (by decide) (fun c8 => ?_) (fun c8 => ?_)
        · replace h := uu_neg c8 h
          refine uu_iconst (v := 0) dX9_isSameAt_60 (by decide) ?_
          refine uu_lv [2, 3, 4, 5, 6, 7, 8, 1] (lv' := [(0, .ref (B + k0)), (1, .int x1), (2, .ref (B + k2)), (3, .int x3), (4, .int x4), (5, .int (bI b5)), (6, .int x6), (7, .int v2)]) rfl ?_
          exact xb_X9_isSameAt_61 uk hK3 hk0 h
        · replace h := uu_pos c8 h
          refine uu_iconst (v := 1) dX9_isSameAt_56 (by decide) ?_
          refine uu_goto (tgt := 61) dX9_isSameAt_57 (by decide) ?_
          refine uu_lv [2, 3, 4, 5, 6, 7, 8, 1] (lv' := [(0, .ref (B + k0)), (1, .int x1), (2, .ref (B + k2)), (3, .int x3), (4, .int x4), (5, .int (bI b5)), (6, .int x6), (7, .int v2)]) rfl ?_
          exact xb_X9_isSameAt_61 uk hK3 hk0 h
def fn_X9_isSameAt_3  : Nat → Nat → Int32 → Nat → Int32 → Int32 → Bool → Int32 → uS → Option Bool
  | 0 => fun _ _ _ _ _ _ _ _ => none
  | n + 1 => fb_X9_isSameAt_3 (fn_X9_isSameAt_3  n)
set_option maxRecDepth 100000 in
set_option maxHeartbeats 4000000 in
theorem xn_X9_isSameAt_3 {l : Launch} {D : va_G} {A : Nat → ClassId} {B : Nat} {Z : State → Heap → Prop} {vF : Value} (uk : uK B Z vF)   : ∀ (n : Nat) (k0 : Nat) (x1 : Int32) (k2 : Nat) (x3 : Int32) (x4 : Int32) (b5 : Bool) (x6 : Int32) (hk0 : uSo k0 9) (s : uS) (r : Bool), fn_X9_isSameAt_3  n k0 x1 k2 x3 x4 b5 x6 s = some r → GU l D A B Z mX9_isSameAt 0 (s, some (.int (bI r))) s 3 [(0, .ref (B + k0)), (1, .int x1), (2, .ref (B + k2)), (3, .int x3), (4, .int x4), (5, .int (bI b5)), (6, .int x6)] [] := by
  intro n
  induction n with
  | zero => intro k0 x1 k2 x3 x4 b5 x6 hk0 s r h
            cases h
  | succ n ih => intro k0 x1 k2 x3 x4 b5 x6 hk0 s r h
                 exact xb_X9_isSameAt_3 uk ih hk0 h
def fn_X9_isSameAt (k0 : Nat) (x1 : Int32) (k2 : Nat) (x3 : Int32) (x4 : Int32) (b5 : Bool) (s : uS) : Option Bool := fn_X9_isSameAt_3 uFu k0 x1 k2 x3 x4 b5 0 s
set_option maxRecDepth 100000 in
set_option maxHeartbeats 4000000 in
theorem xc_X9_isSameAt {l : Launch} {D : va_G} {A : Nat → ClassId} {B : Nat} {Z : State → Heap → Prop} {vF : Value} (uk : uK B Z vF) {k0 : Nat} {x1 : Int32} {k2 : Nat} {x3 : Int32} {x4 : Int32} {b5 : Bool} {s : uS} {r : Bool} (hk0 : uSo k0 9) (h : fn_X9_isSameAt k0 x1 k2 x3 x4 b5 s = some r) : CU l D A B Z 0 mX9_isSameAt s [.ref (B + k0), .int x1, .ref (B + k2), .int x3, .int x4, .int (bI b5)] (s, some (.int (bI r))) := by
  unfold fn_X9_isSameAt at h
  refine cu_of rfl uk.1.1 (Nat.le_of_ble_eq_true rfl) ?_
  show GU _ _ _ _ _ _ _ _ _ 0 [(0, .ref (B + k0)), (1, .int x1), (2, .ref (B + k2)), (3, .int x3), (4, .int x4), (5, .int (bI b5))] []
  refine uu_iconst (v := 0) dX9_isSameAt_0 (by decide) ?_
  refine uu_istore dX9_isSameAt_1 (by decide) rfl ?_
  refine uu_lv [1, 2, 3, 4, 5, 6, 0] (lv' := [(0, .ref (B + k0)), (1, .int x1), (2, .ref (B + k2)), (3, .int x3), (4, .int x4), (5, .int (bI b5)), (6, .int 0)]) rfl ?_
  exact xn_X9_isSameAt_3 uk  _ _ _ _ _ _ _ _ hk0 _ _ h
abbrev mX9_isSameText : hM := (yX9_isSameText, cX9_isSameText, 6, (some (.boolean)))
theorem dX9_isSameText_0 : decode cX9_isSameText 0 = .ok (.aload_n 0, 1) := by decide +kernel
theorem dX9_isSameText_1 : decode cX9_isSameText 1 = .ok (.iload_n 1, 1) := by decide +kernel
theorem lX9_81 : Cond.methodLink RX9 81 mX9_lengthOf.1 ∈ lw_g := h_t5 149 rfl rfl
theorem dX9_isSameText_2 : decode cX9_isSameText 2 = .ok (.invokevirtual 81, 3) := by decide +kernel
theorem dX9_isSameText_5 : decode cX9_isSameText 5 = .ok (.istore 5, 2) := by decide +kernel
theorem dX9_isSameText_7 : decode cX9_isSameText 7 = .ok (.aload_n 0, 1) := by decide +kernel
theorem dX9_isSameText_8 : decode cX9_isSameText 8 = .ok (.iload_n 1, 1) := by decide +kernel
theorem dX9_isSameText_9 : decode cX9_isSameText 9 = .ok (.invokevirtual 68, 3) := by decide +kernel
theorem dX9_isSameText_12 : decode cX9_isSameText 12 = .ok (.ifCond .eq 52, 3) := by decide +kernel
theorem dX9_isSameText_64 : decode cX9_isSameText 64 = .ok (.iconst 0, 1) := by decide +kernel
theorem dX9_isSameText_65 : decode cX9_isSameText 65 = .ok (.ireturn, 1) := by decide +kernel
theorem dX9_isSameText_15 : decode cX9_isSameText 15 = .ok (.aload_n 2, 1) := by decide +kernel
theorem dX9_isSameText_16 : decode cX9_isSameText 16 = .ok (.iload_n 3, 1) := by decide +kernel
theorem dX9_isSameText_17 : decode cX9_isSameText 17 = .ok (.invokevirtual 68, 3) := by decide +kernel
theorem dX9_isSameText_20 : decode cX9_isSameText 20 = .ok (.ifCond .eq 44, 3) := by decide +kernel
theorem dX9_isSameText_23 : decode cX9_isSameText 23 = .ok (.iload 5, 2) := by decide +kernel
theorem dX9_isSameText_25 : decode cX9_isSameText 25 = .ok (.aload_n 2, 1) := by decide +kernel
theorem dX9_isSameText_26 : decode cX9_isSameText 26 = .ok (.iload_n 3, 1) := by decide +kernel
theorem dX9_isSameText_27 : decode cX9_isSameText 27 = .ok (.invokevirtual 81, 3) := by decide +kernel
theorem dX9_isSameText_30 : decode cX9_isSameText 30 = .ok (.if_icmp .ne 34, 3) := by decide +kernel
theorem dX9_isSameText_33 : decode cX9_isSameText 33 = .ok (.aload_n 0, 1) := by decide +kernel
theorem dX9_isSameText_34 : decode cX9_isSameText 34 = .ok (.aload_n 0, 1) := by decide +kernel
theorem dX9_isSameText_35 : decode cX9_isSameText 35 = .ok (.getfield 13, 3) := by decide +kernel
theorem dX9_isSameText_38 : decode cX9_isSameText 38 = .ok (.iload_n 1, 1) := by decide +kernel
theorem dX9_isSameText_39 : decode cX9_isSameText 39 = .ok (.iaload, 1) := by decide +kernel
theorem dX9_isSameText_40 : decode cX9_isSameText 40 = .ok (.aload_n 2, 1) := by decide +kernel
theorem dX9_isSameText_41 : decode cX9_isSameText 41 = .ok (.getfield 9, 3) := by decide +kernel
theorem dX9_isSameText_44 : decode cX9_isSameText 44 = .ok (.aload_n 2, 1) := by decide +kernel
theorem dX9_isSameText_45 : decode cX9_isSameText 45 = .ok (.getfield 13, 3) := by decide +kernel
theorem dX9_isSameText_48 : decode cX9_isSameText 48 = .ok (.iload_n 3, 1) := by decide +kernel
theorem dX9_isSameText_49 : decode cX9_isSameText 49 = .ok (.iaload, 1) := by decide +kernel
theorem dX9_isSameText_50 : decode cX9_isSameText 50 = .ok (.iload 5, 2) := by decide +kernel
theorem dX9_isSameText_52 : decode cX9_isSameText 52 = .ok (.iload 4, 2) := by decide +kernel
theorem kX9_isSameAt : h_ml mX9_isSameAt 5 := ⟨h_t5 153 rfl rfl, h_t1 4 rfl rfl, ⟨by decide, by decide, by decide +kernel⟩, by decide⟩
theorem lX9_85 : Cond.methodLink RX9 85 mX9_isSameAt.1 ∈ lw_g := h_t5 150 rfl rfl
theorem sX9_isSameAt : Cond.instanceMethod mX9_isSameAt.1 ∈ lw_g ∧ Cond.selects mX9_isSameAt.1.cls mX9_isSameAt.1 mX9_isSameAt.1 ∈ lw_g := ⟨h_t5 152 rfl rfl, h_ins 48 rfl⟩
theorem dX9_isSameText_54 : decode cX9_isSameText 54 = .ok (.invokevirtual 85, 3) := by decide +kernel
theorem dX9_isSameText_57 : decode cX9_isSameText 57 = .ok (.ifCond .eq 7, 3) := by decide +kernel
theorem dX9_isSameText_60 : decode cX9_isSameText 60 = .ok (.iconst 1, 1) := by decide +kernel
theorem dX9_isSameText_61 : decode cX9_isSameText 61 = .ok (.goto 4, 3) := by decide +kernel
def fn_X9_isSameText (k0 : Nat) (x1 : Int32) (k2 : Nat) (x3 : Int32) (b4 : Bool) (s : uS) : Option Bool := (fn_X9_lengthOf k0 x1 s).bind fun v1 => (fn_X9_has k0 x1 s).bind fun v3 => if v3 = true then ((fn_X9_has k2 x3 s).bind fun v6 => if v6 = true then ((fn_X9_lengthOf k2 x3 s).bind fun v9 => if v1 = v9 then ((iget 20 s (k0 + 2) x1).bind fun v12 => (iget 20 s (k2 + 2) x3).bind fun v14 => (fn_X9_isSameAt k0 v12 (k2 + 1) v14 v1 b4 s).bind fun v16 => if v16 = true then (some true) else (some false)) else (some false)) else (some false)) else (some false)
set_option maxRecDepth 100000 in
set_option maxHeartbeats 4000000 in
theorem xc_X9_isSameText {l : Launch} {D : va_G} {A : Nat → ClassId} {B : Nat} {Z : State → Heap → Prop} {vF : Value} (uk : uK B Z vF) {k0 : Nat} {x1 : Int32} {k2 : Nat} {x3 : Int32} {b4 : Bool} {s : uS} {r : Bool} (hk0 : uSo k0 9) (hk2 : uSo k2 9) (h : fn_X9_isSameText k0 x1 k2 x3 b4 s = some r) : CU l D A B Z 1 mX9_isSameText s [.ref (B + k0), .int x1, .ref (B + k2), .int x3, .int (bI b4)] (s, some (.int (bI r))) := by
  unfold fn_X9_isSameText at h
  refine cu_of rfl uk.1.1 (Nat.le_of_ble_eq_true rfl) ?_
  show GU _ _ _ _ _ _ _ _ _ 0 [(0, .ref (B + k0)), (1, .int x1), (2, .ref (B + k2)), (3, .int x3), (4, .int (bI b4))] []
  refine uu_aload_n dX9_isSameText_0 rfl (List.mem_of_getElem? (i := 0) rfl) ?_
  refine uu_iload_n dX9_isSameText_1 rfl (List.mem_of_getElem? (i := 1) rfl) ?_
  obtain ⟨v1, e2, h⟩ := uu_ob h
  refine uu_cv (d1 := 0) (k := k0) (ci := 9) (T := TX9) (N := 6) (As := [.int x1]) (st := []) (st' := [.int v1]) (xc_X9_lengthOf uk hk0 e2) hk0.is (by decide) rfl kX9_lengthOf lX9_81 sX9_lengthOf (by decide) (Nat.le_of_ble_eq_true rfl) dX9_isSameText_2 rfl ?_
  refine uu_istore dX9_isSameText_5 (by decide) rfl ?_
  refine uu_aload_n dX9_isSameText_7 rfl (List.mem_of_getElem? (i := 1) rfl) ?_
  refine uu_iload_n dX9_isSameText_8 rfl (List.mem_of_getElem? (i := 2) rfl) ?_
  obtain ⟨v3, e4, h⟩ := uu_ob h
  refine uu_cv (d1 := 0) (k := k0) (ci := 9) (T := TX9) (N := 6) (As := [.int x1]) (st := []) (st' := [.int (bI v3)]) (xc_X9_has uk hk0 e4) hk0.is (by decide) rfl kX9_has lX9_68 sX9_has (by decide) (Nat.le_of_ble_eq_true rfl) dX9_isSameText_9 rfl ?_
  refine uu_ifb_eq (tgt := 64) dX9_isSameText_12 (by decide) (fun c5 => ?_) (fun c5 => ?_)
  · replace h := uu_neg c5 h
    refine uu_iconst (v := 0) dX9_isSameText_64 (by decide) ?_
    have hr := Option.some.inj h
    subst hr
    exact uu_zret (x := bI false) rfl (bI_z _) dX9_isSameText_65
  · replace h := uu_pos c5 h
    refine uu_aload_n dX9_isSameText_15 rfl (List.mem_of_getElem? (i := 3) rfl) ?_
    refine uu_iload_n dX9_isSameText_16 rfl (List.mem_of_getElem? (i := 4) rfl) ?_
    obtain ⟨v6, e7, h⟩ := uu_ob h
    refine uu_cv (d1 := 0) (k := k2) (ci := 9) (T := TX9) (N := 6) (As := [.int x3]) (st := []) (st' := [.int (bI v6)]) (xc_X9_has uk hk2 e7) hk2.is (by decide) rfl kX9_has lX9_68 sX9_has (by decide) (Nat.le_of_ble_eq_true rfl) dX9_isSameText_17 rfl ?_
    refine uu_ifb_eq (tgt := 64) dX9_isSameText_20 (by decide) (fun c8 => ?_) (fun c8 => ?_)
    · replace h := uu_neg c8 h
      refine uu_iconst (v := 0) dX9_isSameText_64 (by decide) ?_
      have hr := Option.some.inj h
      subst hr
      exact uu_zret (x := bI false) rfl (bI_z _) dX9_isSameText_65
    · replace h := uu_pos c8 h
      refine uu_iload dX9_isSameText_23 (List.mem_of_getElem? (i := 0) rfl) ?_
      refine uu_aload_n dX9_isSameText_25 rfl (List.mem_of_getElem? (i := 3) rfl) ?_
      refine uu_iload_n dX9_isSameText_26 rfl (List.mem_of_getElem? (i := 4) rfl) ?_
      obtain ⟨v9, e10, h⟩ := uu_ob h
      refine uu_cv (d1 := 0) (k := k2) (ci := 9) (T := TX9) (N := 6) (As := [.int x3]) (st := [.int v1]) (st' := [.int v9, .int v1]) (xc_X9_lengthOf uk hk2 e10) hk2.is (by decide) rfl kX9_lengthOf lX9_81 sX9_lengthOf (by decide) (Nat.le_of_ble_eq_true rfl) dX9_isSameText_27 rfl ?_
      refine uu_icmp_ne (tgt := 64) dX9_isSameText_30 (by decide) (fun c11 => ?_) (fun c11 => ?_)
      · replace h := uu_neg c11 h
        refine uu_iconst (v := 0) dX9_isSameText_64 (by decide) ?_
        have hr := Option.some.inj h
        subst hr
        exact uu_zret (x := bI false) rfl (bI_z _) dX9_isSameText_65
      · replace h := uu_pos c11 h
        refine uu_aload_n dX9_isSameText_33 rfl (List.mem_of_getElem? (i := 1) rfl) ?_
        refine uu_aload_n dX9_isSameText_34 rfl (List.mem_of_getElem? (i := 1) rfl) ?_
        refine uu_getc (ci := 9) (N := 6) fX9_13 (by decide) hk0.is (by decide) (c := 2) (by decide) (k2 := k0 + 2) rfl dX9_isSameText_35 ?_
        refine uu_iload_n dX9_isSameText_38 rfl (List.mem_of_getElem? (i := 2) rfl) ?_
        obtain ⟨v12, e13, h⟩ := uu_ob h
        refine uu_iald e13 dX9_isSameText_39 ?_
        refine uu_aload_n dX9_isSameText_40 rfl (List.mem_of_getElem? (i := 3) rfl) ?_
        refine uu_getc (ci := 9) (N := 6) fX9_9 (by decide) hk2.is (by decide) (c := 1) (by decide) (k2 := k2 + 1) rfl dX9_isSameText_41 ?_
        refine uu_aload_n dX9_isSameText_44 rfl (List.mem_of_getElem? (i := 3) rfl) ?_
        refine uu_getc (ci := 9) (N := 6) fX9_13 (by decide) hk2.is (by decide) (c := 2) (by decide) (k2 := k2 + 2) rfl dX9_isSameText_45 ?_
        refine uu_iload_n dX9_isSameText_48 rfl (List.mem_of_getElem? (i := 4) rfl) ?_
        obtain ⟨v14, e15, h⟩ := uu_ob h
        refine uu_iald e15 dX9_isSameText_49 ?_
        refine uu_iload dX9_isSameText_50 (List.mem_of_getElem? (i := 0) rfl) ?_
        refine uu_iload dX9_isSameText_52 (List.mem_of_getElem? (i := 5) rfl) ?_
        obtain ⟨v16, e17, h⟩ := uu_ob h
        refine uu_cv (d1 := 0) (k := k0) (ci := 9) (T := TX9) (N := 6) (As := [.int v12, .ref (B + (k2 + 1)), .int v14, .int v1, .int (bI b4)]) (st := []) (st' := [.int (bI v16)]) (xc_X9_isSameAt uk hk0 e17) hk0.is (by decide) rfl kX9_isSameAt lX9_85 sX9_isSameAt (by decide) (Nat.le_of_ble_eq_true rfl) dX9_isSameText_54 rfl ?_
        refine uu_ifb_eq (tgt := 64) dX9_isSameText_57 (by decide) (fun c18 => ?_) (fun c18 => ?_)
        · replace h := uu_neg c18 h
          refine uu_iconst (v := 0) dX9_isSameText_64 (by decide) ?_
          have hr := Option.some.inj h
          subst hr
          exact uu_zret (x := bI false) rfl (bI_z _) dX9_isSameText_65
        · replace h := uu_pos c18 h
          refine uu_iconst (v := 1) dX9_isSameText_60 (by decide) ?_
          refine uu_goto (tgt := 65) dX9_isSameText_61 (by decide) ?_
          have hr := Option.some.inj h
          subst hr
          exact uu_zret (x := bI true) rfl (bI_z _) dX9_isSameText_65
abbrev mX6_isListed : hM := (yX6_isListed, cX6_isListed, 4, (some (.boolean)))
theorem dX6_isListed_2 : decode cX6_isListed 2 = .ok (.iload_n 3, 1) := by decide +kernel
theorem dX6_isListed_3 : decode cX6_isListed 3 = .ok (.aload_n 1, 1) := by decide +kernel
theorem fX6_140 : h_fl RX6 140 3 14 RX3 TX3 15 := ⟨rfl, by decide, inX3, h_t1 189 rfl rfl⟩
theorem dX6_isListed_4 : decode cX6_isListed 4 = .ok (.getfield 140, 3) := by decide +kernel
theorem dX6_isListed_7 : decode cX6_isListed 7 = .ok (.iconst 0, 1) := by decide +kernel
theorem dX6_isListed_8 : decode cX6_isListed 8 = .ok (.iaload, 1) := by decide +kernel
theorem dX6_isListed_9 : decode cX6_isListed 9 = .ok (.if_icmp .ge 35, 3) := by decide +kernel
theorem dX6_isListed_44 : decode cX6_isListed 44 = .ok (.iconst 0, 1) := by decide +kernel
theorem dX6_isListed_45 : decode cX6_isListed 45 = .ok (.ireturn, 1) := by decide +kernel
theorem dX6_isListed_12 : decode cX6_isListed 12 = .ok (.aload_n 0, 1) := by decide +kernel
theorem dX6_isListed_13 : decode cX6_isListed 13 = .ok (.getfield 14, 3) := by decide +kernel
theorem dX6_isListed_16 : decode cX6_isListed 16 = .ok (.iload_n 2, 1) := by decide +kernel
theorem dX6_isListed_17 : decode cX6_isListed 17 = .ok (.aload_n 0, 1) := by decide +kernel
theorem dX6_isListed_18 : decode cX6_isListed 18 = .ok (.getfield 31, 3) := by decide +kernel
theorem dX6_isListed_21 : decode cX6_isListed 21 = .ok (.aload_n 1, 1) := by decide +kernel
theorem fX6_137 : h_fl RX6 137 3 13 RX3 TX3 15 := ⟨rfl, by decide, inX3, h_t1 185 rfl rfl⟩
theorem dX6_isListed_22 : decode cX6_isListed 22 = .ok (.getfield 137, 3) := by decide +kernel
theorem dX6_isListed_25 : decode cX6_isListed 25 = .ok (.iconst 0, 1) := by decide +kernel
theorem dX6_isListed_26 : decode cX6_isListed 26 = .ok (.iaload, 1) := by decide +kernel
theorem dX6_isListed_27 : decode cX6_isListed 27 = .ok (.iload_n 3, 1) := by decide +kernel
theorem dX6_isListed_28 : decode cX6_isListed 28 = .ok (.iadd, 1) := by decide +kernel
theorem dX6_isListed_29 : decode cX6_isListed 29 = .ok (.iconst 1, 1) := by decide +kernel
theorem kX9_isSameText : h_ml mX9_isSameText 4 := ⟨h_t5 148 rfl rfl, h_t1 4 rfl rfl, ⟨by decide, by decide, by decide +kernel⟩, by decide⟩
theorem lX6_143 : Cond.methodLink RX6 143 mX9_isSameText.1 ∈ lw_g := h_t5 145 rfl rfl
theorem sX9_isSameText : Cond.instanceMethod mX9_isSameText.1 ∈ lw_g ∧ Cond.selects mX9_isSameText.1.cls mX9_isSameText.1 mX9_isSameText.1 ∈ lw_g := ⟨h_t5 146 rfl rfl, h_t5 147 rfl rfl⟩
theorem dX6_isListed_30 : decode cX6_isListed 30 = .ok (.invokevirtual 143, 3) := by decide +kernel
theorem dX6_isListed_33 : decode cX6_isListed 33 = .ok (.ifCond .eq 5, 3) := by decide +kernel
theorem dX6_isListed_38 : decode cX6_isListed 38 = .ok (.iinc 3 1, 3) := by decide +kernel
theorem dX6_isListed_41 : decode cX6_isListed 41 = .ok (.goto (-39), 3) := by decide +kernel
theorem dX6_isListed_36 : decode cX6_isListed 36 = .ok (.iconst 1, 1) := by decide +kernel
theorem dX6_isListed_37 : decode cX6_isListed 37 = .ok (.ireturn, 1) := by decide +kernel
theorem dX6_isListed_0 : decode cX6_isListed 0 = .ok (.iconst 0, 1) := by decide +kernel
theorem dX6_isListed_1 : decode cX6_isListed 1 = .ok (.istore_n 3, 1) := by decide +kernel
def fb_X6_isListed_2 (K2 : Nat → Int32 → Int32 → uS → Option Bool) (k1 : Nat) (x2 : Int32) (x3 : Int32) (s : uS) : Option Bool := (iget 20 s (k1 + 2) 0).bind fun v1 => if v1 ≤ x3 then (some false) else ((iget 20 s (k1 + 1) 0).bind fun v4 => (fn_X9_isSameText 1054 x2 8 (v4 + x3) true s).bind fun v6 => if v6 = true then (some true) else (K2 k1 x2 (x3 + 1) s))
set_option maxRecDepth 100000 in
set_option maxHeartbeats 4000000 in
theorem xb_X6_isListed_2 {l : Launch} {D : va_G} {A : Nat → ClassId} {B : Nat} {Z : State → Heap → Prop} {vF : Value} (uk : uK B Z vF) {K2 : Nat → Int32 → Int32 → uS → Option Bool} (hK2 : ∀ (k1 : Nat) (x2 : Int32) (x3 : Int32) (hk1 : uSo k1 3) (s : uS) (r : Bool), K2 k1 x2 x3 s = some r → GU l D A B Z mX6_isListed 2 (s, some (.int (bI r))) s 2 [(0, .ref (B + 1053)), (1, .ref (B + k1)), (2, .int x2), (3, .int x3)] []) {k1 : Nat} {x2 : Int32} {x3 : Int32} {s : uS} {r : Bool} (hk1 : uSo k1 3) (h : fb_X6_isListed_2 K2 k1 x2 x3 s = some r) : GU l D A B Z mX6_isListed 2 (s, some (.int (bI r))) s 2 [(0, .ref (B + 1053)), (1, .ref (B + k1)), (2, .int x2), (3, .int x3)] [] := by
  unfold fb_X6_isListed_2 at h
  refine uu_iload_n dX6_isListed_2 rfl (List.mem_of_getElem? (i := 3) rfl) ?_
  refine uu_aload_n dX6_isListed_3 rfl (List.mem_of_getElem? (i := 1) rfl) ?_
  refine uu_getc (ci := 3) (N := 15) fX6_140 (by decide) hk1.is (by decide) (c := 2) (by decide) (k2 := k1 + 2) rfl dX6_isListed_4 ?_
  refine uu_iconst (v := 0) dX6_isListed_7 (by decide) ?_
  obtain ⟨v1, e2, h⟩ := uu_ob h
  refine uu_iald e2 dX6_isListed_8 ?_
  refine uu_icmp_ge (tgt := 44) dX6_isListed_9 (by decide) (fun c3 => ?_) (fun c3 => ?_)
  · replace h := uu_pos c3 h
    refine uu_iconst (v := 0) dX6_isListed_44 (by decide) ?_
    have hr := Option.some.inj h
    subst hr
    exact uu_zret (x := bI false) rfl (bI_z _) dX6_isListed_45
  · replace h := uu_neg c3 h
    refine uu_aload_n dX6_isListed_12 rfl (List.mem_of_getElem? (i := 0) rfl) ?_
    refine uu_geta (ci := 6) (N := 6) fX6_14 (by decide) so_1053.is (by decide) (c := 1054) (by decide) dX6_isListed_13 ?_
    refine uu_iload_n dX6_isListed_16 rfl (List.mem_of_getElem? (i := 2) rfl) ?_
    refine uu_aload_n dX6_isListed_17 rfl (List.mem_of_getElem? (i := 0) rfl) ?_
    refine uu_geta (ci := 6) (N := 6) fX6_31 (by decide) so_1053.is (by decide) (c := 8) (by decide) dX6_isListed_18 ?_
    refine uu_aload_n dX6_isListed_21 rfl (List.mem_of_getElem? (i := 1) rfl) ?_
    refine uu_getc (ci := 3) (N := 15) fX6_137 (by decide) hk1.is (by decide) (c := 1) (by decide) (k2 := k1 + 1) rfl dX6_isListed_22 ?_
    refine uu_iconst (v := 0) dX6_isListed_25 (by decide) ?_
    obtain ⟨v4, e5, h⟩ := uu_ob h
    refine uu_iald e5 dX6_isListed_26 ?_
    refine uu_iload_n dX6_isListed_27 rfl (List.mem_of_getElem? (i := 3) rfl) ?_
    refine uu_iadd dX6_isListed_28 ?_
    refine uu_iconst (v := 1) dX6_isListed_29 (by decide) ?_
    obtain ⟨v6, e7, h⟩ := uu_ob h
    refine uu_cv (d1 := 1) (k := 1054) (ci := 9) (T := TX9) (N := 6) (As := [.int x2, .ref (B + 8), .int (v4 + x3), .int 1]) (st := []) (st' := [.int (bI v6)]) (xc_X9_isSameText uk so_1054 so_8 e7) so_1054.is (by decide) rfl kX9_isSameText lX6_143 sX9_isSameText (by decide) (Nat.le_of_ble_eq_true rfl) dX6_isListed_30 rfl ?_
    refine uu_ifb_eq (tgt := 38) dX6_isListed_33 (by decide) (fun c8 => ?_) (fun c8 => ?_)
    · replace h := uu_neg c8 h
      refine uu_iinc (v := x3 + 1) dX6_isListed_38 (k := 3) rfl rfl (by decide) rfl ?_
      refine uu_goto (tgt := 2) dX6_isListed_41 (by decide) ?_
      refine uu_lv [1, 2, 3, 0] (lv' := [(0, .ref (B + 1053)), (1, .ref (B + k1)), (2, .int x2), (3, .int (x3 + 1))]) rfl ?_
      exact hK2 k1 x2 (x3 + 1) hk1 _ _ h
    · replace h := uu_pos c8 h
      refine uu_iconst (v := 1) dX6_isListed_36 (by decide) ?_
      have hr := Option.some.inj h
      subst hr
      exact uu_zret (x := bI true) rfl (bI_z _) dX6_isListed_37
def fn_X6_isListed_2  : Nat → Nat → Int32 → Int32 → uS → Option Bool
  | 0 => fun _ _ _ _ => none
  | n + 1 => fb_X6_isListed_2 (fn_X6_isListed_2  n)
set_option maxRecDepth 100000 in
set_option maxHeartbeats 4000000 in
theorem xn_X6_isListed_2 {l : Launch} {D : va_G} {A : Nat → ClassId} {B : Nat} {Z : State → Heap → Prop} {vF : Value} (uk : uK B Z vF)   : ∀ (n : Nat) (k1 : Nat) (x2 : Int32) (x3 : Int32) (hk1 : uSo k1 3) (s : uS) (r : Bool), fn_X6_isListed_2  n k1 x2 x3 s = some r → GU l D A B Z mX6_isListed 2 (s, some (.int (bI r))) s 2 [(0, .ref (B + 1053)), (1, .ref (B + k1)), (2, .int x2), (3, .int x3)] [] := by
  intro n
  induction n with
  | zero => intro k1 x2 x3 hk1 s r h
            cases h
  | succ n ih => intro k1 x2 x3 hk1 s r h
                 exact xb_X6_isListed_2 uk ih hk1 h
def fn_X6_isListed (k1 : Nat) (x2 : Int32) (s : uS) : Option Bool := fn_X6_isListed_2 uFu k1 x2 0 s
set_option maxRecDepth 100000 in
set_option maxHeartbeats 4000000 in
theorem xc_X6_isListed {l : Launch} {D : va_G} {A : Nat → ClassId} {B : Nat} {Z : State → Heap → Prop} {vF : Value} (uk : uK B Z vF) {k1 : Nat} {x2 : Int32} {s : uS} {r : Bool} (hk1 : uSo k1 3) (h : fn_X6_isListed k1 x2 s = some r) : CU l D A B Z 2 mX6_isListed s [.ref (B + 1053), .ref (B + k1), .int x2] (s, some (.int (bI r))) := by
  unfold fn_X6_isListed at h
  refine cu_of rfl uk.1.1 (Nat.le_of_ble_eq_true rfl) ?_
  show GU _ _ _ _ _ _ _ _ _ 0 [(0, .ref (B + 1053)), (1, .ref (B + k1)), (2, .int x2)] []
  refine uu_iconst (v := 0) dX6_isListed_0 (by decide) ?_
  refine uu_istore_n dX6_isListed_1 rfl (by decide) rfl ?_
  refine uu_lv [1, 2, 3, 0] (lv' := [(0, .ref (B + 1053)), (1, .ref (B + k1)), (2, .int x2), (3, .int 0)]) rfl ?_
  exact xn_X6_isListed_2 uk  _ _ _ _ hk1 _ _ h
abbrev mX6_narrow : hM := (yX6_narrow, cX6_narrow, 4, none)
theorem dX6_narrow_53 : decode cX6_narrow 53 = .ok (.iload_n 3, 1) := by decide +kernel
theorem dX6_narrow_54 : decode cX6_narrow 54 = .ok (.ifCond .lt 15, 3) := by decide +kernel
theorem dX6_narrow_69 : decode cX6_narrow 69 = .ok (.return_, 1) := by decide +kernel
theorem dX6_narrow_57 : decode cX6_narrow 57 = .ok (.aload_n 0, 1) := by decide +kernel
theorem dX6_narrow_58 : decode cX6_narrow 58 = .ok (.getfield 21, 3) := by decide +kernel
theorem fX6_79 : h_fl RX6 79 9 1 RX9 TX9 6 := ⟨rfl, by decide, inX9, h_t1 65 rfl rfl⟩
theorem dX6_narrow_61 : decode cX6_narrow 61 = .ok (.getfield 79, 3) := by decide +kernel
theorem dX6_narrow_64 : decode cX6_narrow 64 = .ok (.iload_n 1, 1) := by decide +kernel
theorem dX6_narrow_65 : decode cX6_narrow 65 = .ok (.iload_n 3, 1) := by decide +kernel
theorem dX6_narrow_66 : decode cX6_narrow 66 = .ok (.iconst 1, 1) := by decide +kernel
theorem dX6_narrow_67 : decode cX6_narrow 67 = .ok (.iadd, 1) := by decide +kernel
theorem dX6_narrow_68 : decode cX6_narrow 68 = .ok (.iastore, 1) := by decide +kernel
theorem dX6_narrow_0 : decode cX6_narrow 0 = .ok (.aload_n 0, 1) := by decide +kernel
theorem dX6_narrow_1 : decode cX6_narrow 1 = .ok (.getfield 21, 3) := by decide +kernel
theorem fX6_82 : h_fl RX6 82 9 0 RX9 TX9 6 := ⟨rfl, by decide, inX9, h_t1 57 rfl rfl⟩
theorem dX6_narrow_4 : decode cX6_narrow 4 = .ok (.getfield 82, 3) := by decide +kernel
theorem dX6_narrow_7 : decode cX6_narrow 7 = .ok (.aload_n 0, 1) := by decide +kernel
theorem dX6_narrow_8 : decode cX6_narrow 8 = .ok (.getfield 21, 3) := by decide +kernel
theorem dX6_narrow_11 : decode cX6_narrow 11 = .ok (.getfield 79, 3) := by decide +kernel
theorem dX6_narrow_14 : decode cX6_narrow 14 = .ok (.iload_n 1, 1) := by decide +kernel
theorem dX6_narrow_15 : decode cX6_narrow 15 = .ok (.iaload, 1) := by decide +kernel
theorem dX6_narrow_16 : decode cX6_narrow 16 = .ok (.aload_n 0, 1) := by decide +kernel
theorem dX6_narrow_17 : decode cX6_narrow 17 = .ok (.getfield 21, 3) := by decide +kernel
theorem fX6_75 : h_fl RX6 75 9 2 RX9 TX9 6 := ⟨rfl, by decide, inX9, h_t1 73 rfl rfl⟩
theorem dX6_narrow_20 : decode cX6_narrow 20 = .ok (.getfield 75, 3) := by decide +kernel
theorem dX6_narrow_23 : decode cX6_narrow 23 = .ok (.iload_n 1, 1) := by decide +kernel
theorem dX6_narrow_24 : decode cX6_narrow 24 = .ok (.iaload, 1) := by decide +kernel
theorem dX6_narrow_25 : decode cX6_narrow 25 = .ok (.bipush 64, 2) := by decide +kernel
theorem lX6_171 : Cond.methodLink RX6 171 mX9_find.1 ∈ lw_g := h_t5 186 rfl rfl
theorem dX6_narrow_27 : decode cX6_narrow 27 = .ok (.invokestatic 171, 3) := by decide +kernel
theorem dX6_narrow_30 : decode cX6_narrow 30 = .ok (.istore_n 3, 1) := by decide +kernel
theorem dX6_narrow_31 : decode cX6_narrow 31 = .ok (.iload_n 3, 1) := by decide +kernel
theorem dX6_narrow_32 : decode cX6_narrow 32 = .ok (.ifCond .lt 21, 3) := by decide +kernel
theorem dX6_narrow_35 : decode cX6_narrow 35 = .ok (.iload_n 2, 1) := by decide +kernel
theorem dX6_narrow_36 : decode cX6_narrow 36 = .ok (.iconst 1, 1) := by decide +kernel
theorem dX6_narrow_37 : decode cX6_narrow 37 = .ok (.if_icmp .ne 16, 3) := by decide +kernel
theorem dX6_narrow_40 : decode cX6_narrow 40 = .ok (.aload_n 0, 1) := by decide +kernel
theorem dX6_narrow_41 : decode cX6_narrow 41 = .ok (.getfield 21, 3) := by decide +kernel
theorem dX6_narrow_44 : decode cX6_narrow 44 = .ok (.getfield 75, 3) := by decide +kernel
theorem dX6_narrow_47 : decode cX6_narrow 47 = .ok (.iload_n 1, 1) := by decide +kernel
theorem dX6_narrow_48 : decode cX6_narrow 48 = .ok (.iload_n 3, 1) := by decide +kernel
theorem dX6_narrow_49 : decode cX6_narrow 49 = .ok (.iastore, 1) := by decide +kernel
theorem dX6_narrow_50 : decode cX6_narrow 50 = .ok (.goto 19, 3) := by decide +kernel
def fb_X6_narrow_53  (x1 : Int32) (x3 : Int32) (s : uS) : Option uS := if x3 < 0 then (some s) else ((iput 20 s 1064 x1 (x3 + 1)).bind fun s2 => some s2)
set_option maxRecDepth 100000 in
set_option maxHeartbeats 4000000 in
theorem xb_X6_narrow_53 {l : Launch} {D : va_G} {A : Nat → ClassId} {B : Nat} {Z : State → Heap → Prop} {vF : Value} (uk : uK B Z vF)   {x1 : Int32} {x3 : Int32} {s : uS} {r : uS}  (h : fb_X6_narrow_53  x1 x3 s = some r) : GU l D A B Z mX6_narrow 1 (r, none) s 53 [(0, .ref (B + 1053)), (1, .int x1), (3, .int x3)] [] := by
  unfold fb_X6_narrow_53 at h
  refine uu_iload_n dX6_narrow_53 rfl (List.mem_of_getElem? (i := 2) rfl) ?_
  refine uu_if_lt (tgt := 69) dX6_narrow_54 (by decide) (fun c1 => ?_) (fun c1 => ?_)
  · replace h := uu_pos c1 h
    have hr := Option.some.inj h
    subst hr
    exact uu_vret rfl dX6_narrow_69
  · replace h := uu_neg c1 h
    refine uu_aload_n dX6_narrow_57 rfl (List.mem_of_getElem? (i := 0) rfl) ?_
    refine uu_geta (ci := 6) (N := 6) fX6_21 (by decide) so_1053.is (by decide) (c := 1062) (by decide) dX6_narrow_58 ?_
    refine uu_getc (ci := 9) (N := 6) fX6_79 (by decide) so_1062.is (by decide) (c := 2) (by decide) (k2 := 1064) rfl dX6_narrow_61 ?_
    refine uu_iload_n dX6_narrow_64 rfl (List.mem_of_getElem? (i := 1) rfl) ?_
    refine uu_iload_n dX6_narrow_65 rfl (List.mem_of_getElem? (i := 2) rfl) ?_
    refine uu_iconst (v := 1) dX6_narrow_66 (by decide) ?_
    refine uu_iadd dX6_narrow_67 ?_
    obtain ⟨s2, e3, h⟩ := uu_ob h
    refine uu_iast e3 dX6_narrow_68 ?_
    have hr := Option.some.inj h
    subst hr
    exact uu_vret rfl dX6_narrow_69
def fn_X6_narrow (x1 : Int32) (x2 : Int32) (s : uS) : Option uS := (iget 20 s 1064 x1).bind fun v1 => (iget 20 s 1065 x1).bind fun v3 => (fn_X9_find 1063 v1 v3 64 s).bind fun v5 => if v5 < 0 then (fb_X6_narrow_53 x1 v5 s) else (if x2 = 1 then ((iput 20 s 1065 x1 v5).bind fun s9 => some s9) else (fb_X6_narrow_53 x1 v5 s))
set_option maxRecDepth 100000 in
set_option maxHeartbeats 4000000 in
theorem xc_X6_narrow {l : Launch} {D : va_G} {A : Nat → ClassId} {B : Nat} {Z : State → Heap → Prop} {vF : Value} (uk : uK B Z vF) {x1 : Int32} {x2 : Int32} {s : uS} {r : uS}  (h : fn_X6_narrow x1 x2 s = some r) : CU l D A B Z 1 mX6_narrow s [.ref (B + 1053), .int x1, .int x2] (r, none) := by
  unfold fn_X6_narrow at h
  refine cu_of rfl uk.1.1 (Nat.le_of_ble_eq_true rfl) ?_
  show GU _ _ _ _ _ _ _ _ _ 0 [(0, .ref (B + 1053)), (1, .int x1), (2, .int x2)] []
  refine uu_aload_n dX6_narrow_0 rfl (List.mem_of_getElem? (i := 0) rfl) ?_
  refine uu_geta (ci := 6) (N := 6) fX6_21 (by decide) so_1053.is (by decide) (c := 1062) (by decide) dX6_narrow_1 ?_
  refine uu_getc (ci := 9) (N := 6) fX6_82 (by decide) so_1062.is (by decide) (c := 1) (by decide) (k2 := 1063) rfl dX6_narrow_4 ?_
  refine uu_aload_n dX6_narrow_7 rfl (List.mem_of_getElem? (i := 0) rfl) ?_
  refine uu_geta (ci := 6) (N := 6) fX6_21 (by decide) so_1053.is (by decide) (c := 1062) (by decide) dX6_narrow_8 ?_
  refine uu_getc (ci := 9) (N := 6) fX6_79 (by decide) so_1062.is (by decide) (c := 2) (by decide) (k2 := 1064) rfl dX6_narrow_11 ?_
  refine uu_iload_n dX6_narrow_14 rfl (List.mem_of_getElem? (i := 1) rfl) ?_
  obtain ⟨v1, e2, h⟩ := uu_ob h
  refine uu_iald e2 dX6_narrow_15 ?_
  refine uu_aload_n dX6_narrow_16 rfl (List.mem_of_getElem? (i := 0) rfl) ?_
  refine uu_geta (ci := 6) (N := 6) fX6_21 (by decide) so_1053.is (by decide) (c := 1062) (by decide) dX6_narrow_17 ?_
  refine uu_getc (ci := 9) (N := 6) fX6_75 (by decide) so_1062.is (by decide) (c := 3) (by decide) (k2 := 1065) rfl dX6_narrow_20 ?_
  refine uu_iload_n dX6_narrow_23 rfl (List.mem_of_getElem? (i := 1) rfl) ?_
  obtain ⟨v3, e4, h⟩ := uu_ob h
  refine uu_iald e4 dX6_narrow_24 ?_
  refine uu_bipush (v := 64) dX6_narrow_25 (by decide) ?_
  obtain ⟨v5, e6, h⟩ := uu_ob h
  refine uu_cs (d1 := 0) (As := [.ref (B + 1063), .int v1, .int v3, .int 64]) (st := []) (st' := [.int v5]) (xc_X9_find uk  e6) kX9_find lX6_171 sX9_find (by decide) (Nat.le_of_ble_eq_true rfl) dX6_narrow_27 rfl ?_
  refine uu_istore_n dX6_narrow_30 rfl (by decide) rfl ?_
  refine uu_iload_n dX6_narrow_31 rfl (List.mem_of_getElem? (i := 0) rfl) ?_
  refine uu_if_lt (tgt := 53) dX6_narrow_32 (by decide) (fun c7 => ?_) (fun c7 => ?_)
  · replace h := uu_pos c7 h
    refine uu_lv [1, 2, 0] (lv' := [(0, .ref (B + 1053)), (1, .int x1), (3, .int v5)]) rfl ?_
    exact xb_X6_narrow_53 uk  h
  · replace h := uu_neg c7 h
    refine uu_iload_n dX6_narrow_35 rfl (List.mem_of_getElem? (i := 3) rfl) ?_
    refine uu_iconst (v := 1) dX6_narrow_36 (by decide) ?_
    refine uu_icmp_ne (tgt := 53) dX6_narrow_37 (by decide) (fun c8 => ?_) (fun c8 => ?_)
    · replace h := uu_neg c8 h
      refine uu_lv [1, 2, 0] (lv' := [(0, .ref (B + 1053)), (1, .int x1), (3, .int v5)]) rfl ?_
      exact xb_X6_narrow_53 uk  h
    · replace h := uu_pos c8 h
      refine uu_aload_n dX6_narrow_40 rfl (List.mem_of_getElem? (i := 1) rfl) ?_
      refine uu_geta (ci := 6) (N := 6) fX6_21 (by decide) so_1053.is (by decide) (c := 1062) (by decide) dX6_narrow_41 ?_
      refine uu_getc (ci := 9) (N := 6) fX6_75 (by decide) so_1062.is (by decide) (c := 3) (by decide) (k2 := 1065) rfl dX6_narrow_44 ?_
      refine uu_iload_n dX6_narrow_47 rfl (List.mem_of_getElem? (i := 2) rfl) ?_
      refine uu_iload_n dX6_narrow_48 rfl (List.mem_of_getElem? (i := 0) rfl) ?_
      obtain ⟨s9, e10, h⟩ := uu_ob h
      refine uu_iast e10 dX6_narrow_49 ?_
      refine uu_goto (tgt := 69) dX6_narrow_50 (by decide) ?_
      have hr := Option.some.inj h
      subst hr
      exact uu_vret rfl dX6_narrow_69
abbrev mX6_hasAllFields : hM := (yX6_hasAllFields, cX6_hasAllFields, 5, (some (.boolean)))
theorem dX6_hasAllFields_62 : decode cX6_hasAllFields 62 = .ok (.iload_n 3, 1) := by decide +kernel
theorem dX6_hasAllFields_63 : decode cX6_hasAllFields 63 = .ok (.ifCond .ne 5, 3) := by decide +kernel
theorem dX6_hasAllFields_68 : decode cX6_hasAllFields 68 = .ok (.iinc 2 1, 3) := by decide +kernel
theorem dX6_hasAllFields_71 : decode cX6_hasAllFields 71 = .ok (.goto (-69), 3) := by decide +kernel
theorem dX6_hasAllFields_66 : decode cX6_hasAllFields 66 = .ok (.iconst 0, 1) := by decide +kernel
theorem dX6_hasAllFields_67 : decode cX6_hasAllFields 67 = .ok (.ireturn, 1) := by decide +kernel
theorem dX6_hasAllFields_17 : decode cX6_hasAllFields 17 = .ok (.iload 4, 2) := by decide +kernel
theorem dX6_hasAllFields_19 : decode cX6_hasAllFields 19 = .ok (.aload_n 0, 1) := by decide +kernel
theorem dX6_hasAllFields_20 : decode cX6_hasAllFields 20 = .ok (.getfield 14, 3) := by decide +kernel
theorem fX6_62 : h_fl RX6 62 9 3 RX9 TX9 6 := ⟨rfl, by decide, inX9, h_t1 81 rfl rfl⟩
theorem dX6_hasAllFields_23 : decode cX6_hasAllFields 23 = .ok (.getfield 62, 3) := by decide +kernel
theorem dX6_hasAllFields_26 : decode cX6_hasAllFields 26 = .ok (.if_icmp .ge 36, 3) := by decide +kernel
theorem dX6_hasAllFields_29 : decode cX6_hasAllFields 29 = .ok (.iload_n 3, 1) := by decide +kernel
theorem dX6_hasAllFields_30 : decode cX6_hasAllFields 30 = .ok (.ifCond .ne 32, 3) := by decide +kernel
theorem dX6_hasAllFields_33 : decode cX6_hasAllFields 33 = .ok (.aload_n 0, 1) := by decide +kernel
theorem dX6_hasAllFields_34 : decode cX6_hasAllFields 34 = .ok (.getfield 14, 3) := by decide +kernel
theorem dX6_hasAllFields_37 : decode cX6_hasAllFields 37 = .ok (.iload 4, 2) := by decide +kernel
theorem dX6_hasAllFields_39 : decode cX6_hasAllFields 39 = .ok (.aload_n 0, 1) := by decide +kernel
theorem dX6_hasAllFields_40 : decode cX6_hasAllFields 40 = .ok (.getfield 31, 3) := by decide +kernel
theorem dX6_hasAllFields_43 : decode cX6_hasAllFields 43 = .ok (.aload_n 1, 1) := by decide +kernel
theorem dX6_hasAllFields_44 : decode cX6_hasAllFields 44 = .ok (.getfield 137, 3) := by decide +kernel
theorem dX6_hasAllFields_47 : decode cX6_hasAllFields 47 = .ok (.iconst 0, 1) := by decide +kernel
theorem dX6_hasAllFields_48 : decode cX6_hasAllFields 48 = .ok (.iaload, 1) := by decide +kernel
theorem dX6_hasAllFields_49 : decode cX6_hasAllFields 49 = .ok (.iload_n 2, 1) := by decide +kernel
theorem dX6_hasAllFields_50 : decode cX6_hasAllFields 50 = .ok (.iadd, 1) := by decide +kernel
theorem dX6_hasAllFields_51 : decode cX6_hasAllFields 51 = .ok (.iconst 1, 1) := by decide +kernel
theorem dX6_hasAllFields_52 : decode cX6_hasAllFields 52 = .ok (.invokevirtual 143, 3) := by decide +kernel
theorem dX6_hasAllFields_55 : decode cX6_hasAllFields 55 = .ok (.istore_n 3, 1) := by decide +kernel
theorem dX6_hasAllFields_56 : decode cX6_hasAllFields 56 = .ok (.iinc 4 1, 3) := by decide +kernel
theorem dX6_hasAllFields_59 : decode cX6_hasAllFields 59 = .ok (.goto (-42), 3) := by decide +kernel
theorem dX6_hasAllFields_2 : decode cX6_hasAllFields 2 = .ok (.iload_n 2, 1) := by decide +kernel
theorem dX6_hasAllFields_3 : decode cX6_hasAllFields 3 = .ok (.aload_n 1, 1) := by decide +kernel
theorem dX6_hasAllFields_4 : decode cX6_hasAllFields 4 = .ok (.getfield 140, 3) := by decide +kernel
theorem dX6_hasAllFields_7 : decode cX6_hasAllFields 7 = .ok (.iconst 0, 1) := by decide +kernel
theorem dX6_hasAllFields_8 : decode cX6_hasAllFields 8 = .ok (.iaload, 1) := by decide +kernel
theorem dX6_hasAllFields_9 : decode cX6_hasAllFields 9 = .ok (.if_icmp .ge 65, 3) := by decide +kernel
theorem dX6_hasAllFields_74 : decode cX6_hasAllFields 74 = .ok (.iconst 1, 1) := by decide +kernel
theorem dX6_hasAllFields_75 : decode cX6_hasAllFields 75 = .ok (.ireturn, 1) := by decide +kernel
theorem dX6_hasAllFields_12 : decode cX6_hasAllFields 12 = .ok (.iconst 0, 1) := by decide +kernel
theorem dX6_hasAllFields_13 : decode cX6_hasAllFields 13 = .ok (.istore_n 3, 1) := by decide +kernel
theorem dX6_hasAllFields_14 : decode cX6_hasAllFields 14 = .ok (.iconst 0, 1) := by decide +kernel
theorem dX6_hasAllFields_15 : decode cX6_hasAllFields 15 = .ok (.istore 4, 2) := by decide +kernel
theorem dX6_hasAllFields_0 : decode cX6_hasAllFields 0 = .ok (.iconst 0, 1) := by decide +kernel
theorem dX6_hasAllFields_1 : decode cX6_hasAllFields 1 = .ok (.istore_n 2, 1) := by decide +kernel
def fb_X6_hasAllFields_62 (K2 : Nat → Int32 → uS → Option Bool) (k1 : Nat) (x2 : Int32) (b3 : Bool) (s : uS) : Option Bool := if b3 = true then (K2 k1 (x2 + 1) s) else (some false)
set_option maxRecDepth 100000 in
set_option maxHeartbeats 4000000 in
theorem xb_X6_hasAllFields_62 {l : Launch} {D : va_G} {A : Nat → ClassId} {B : Nat} {Z : State → Heap → Prop} {vF : Value} (uk : uK B Z vF) {K2 : Nat → Int32 → uS → Option Bool} (hK2 : ∀ (k1 : Nat) (x2 : Int32) (hk1 : uSo k1 3) (s : uS) (r : Bool), K2 k1 x2 s = some r → GU l D A B Z mX6_hasAllFields 2 (s, some (.int (bI r))) s 2 [(0, .ref (B + 1053)), (1, .ref (B + k1)), (2, .int x2)] []) {k1 : Nat} {x2 : Int32} {b3 : Bool} {s : uS} {r : Bool} (hk1 : uSo k1 3) (h : fb_X6_hasAllFields_62 K2 k1 x2 b3 s = some r) : GU l D A B Z mX6_hasAllFields 2 (s, some (.int (bI r))) s 62 [(0, .ref (B + 1053)), (1, .ref (B + k1)), (2, .int x2), (3, .int (bI b3))] [] := by
  unfold fb_X6_hasAllFields_62 at h
  refine uu_iload_n dX6_hasAllFields_62 rfl (List.mem_of_getElem? (i := 3) rfl) ?_
  refine uu_ifb_ne (tgt := 68) dX6_hasAllFields_63 (by decide) (fun c1 => ?_) (fun c1 => ?_)
  · replace h := uu_pos c1 h
    refine uu_iinc (v := x2 + 1) dX6_hasAllFields_68 (k := 2) rfl rfl (by decide) rfl ?_
    refine uu_goto (tgt := 2) dX6_hasAllFields_71 (by decide) ?_
    refine uu_lv [1, 2, 0] (lv' := [(0, .ref (B + 1053)), (1, .ref (B + k1)), (2, .int (x2 + 1))]) rfl ?_
    exact hK2 k1 (x2 + 1) hk1 _ _ h
  · replace h := uu_neg c1 h
    refine uu_iconst (v := 0) dX6_hasAllFields_66 (by decide) ?_
    have hr := Option.some.inj h
    subst hr
    exact uu_zret (x := bI false) rfl (bI_z _) dX6_hasAllFields_67
def fb_X6_hasAllFields_17 (K2 : Nat → Int32 → uS → Option Bool) (K17 : Nat → Int32 → Bool → Int32 → uS → Option Bool) (k1 : Nat) (x2 : Int32) (b3 : Bool) (x4 : Int32) (s : uS) : Option Bool := if (s.I 1054 3) ≤ x4 then (fb_X6_hasAllFields_62 K2 k1 x2 b3 s) else (if b3 = true then (fb_X6_hasAllFields_62 K2 k1 x2 b3 s) else ((iget 20 s (k1 + 1) 0).bind fun v3 => (fn_X9_isSameText 1054 x4 8 (v3 + x2) true s).bind fun v5 => K17 k1 x2 v5 (x4 + 1) s))
set_option maxRecDepth 100000 in
set_option maxHeartbeats 4000000 in
theorem xb_X6_hasAllFields_17 {l : Launch} {D : va_G} {A : Nat → ClassId} {B : Nat} {Z : State → Heap → Prop} {vF : Value} (uk : uK B Z vF) {K2 : Nat → Int32 → uS → Option Bool} {K17 : Nat → Int32 → Bool → Int32 → uS → Option Bool} (hK2 : ∀ (k1 : Nat) (x2 : Int32) (hk1 : uSo k1 3) (s : uS) (r : Bool), K2 k1 x2 s = some r → GU l D A B Z mX6_hasAllFields 2 (s, some (.int (bI r))) s 2 [(0, .ref (B + 1053)), (1, .ref (B + k1)), (2, .int x2)] []) (hK17 : ∀ (k1 : Nat) (x2 : Int32) (b3 : Bool) (x4 : Int32) (hk1 : uSo k1 3) (s : uS) (r : Bool), K17 k1 x2 b3 x4 s = some r → GU l D A B Z mX6_hasAllFields 2 (s, some (.int (bI r))) s 17 [(0, .ref (B + 1053)), (1, .ref (B + k1)), (2, .int x2), (3, .int (bI b3)), (4, .int x4)] []) {k1 : Nat} {x2 : Int32} {b3 : Bool} {x4 : Int32} {s : uS} {r : Bool} (hk1 : uSo k1 3) (h : fb_X6_hasAllFields_17 K2 K17 k1 x2 b3 x4 s = some r) : GU l D A B Z mX6_hasAllFields 2 (s, some (.int (bI r))) s 17 [(0, .ref (B + 1053)), (1, .ref (B + k1)), (2, .int x2), (3, .int (bI b3)), (4, .int x4)] [] := by
  unfold fb_X6_hasAllFields_17 at h
  refine uu_iload dX6_hasAllFields_17 (List.mem_of_getElem? (i := 4) rfl) ?_
  refine uu_aload_n dX6_hasAllFields_19 rfl (List.mem_of_getElem? (i := 0) rfl) ?_
  refine uu_geta (ci := 6) (N := 6) fX6_14 (by decide) so_1053.is (by decide) (c := 1054) (by decide) dX6_hasAllFields_20 ?_
  refine uu_geti (ci := 9) (N := 6) fX6_62 (by decide) so_1054.is (by decide) (by decide) dX6_hasAllFields_23 ?_
  refine uu_icmp_ge (tgt := 62) dX6_hasAllFields_26 (by decide) (fun c1 => ?_) (fun c1 => ?_)
  · replace h := uu_pos c1 h
    refine uu_lv [0, 1, 2, 3] (lv' := [(0, .ref (B + 1053)), (1, .ref (B + k1)), (2, .int x2), (3, .int (bI b3))]) rfl ?_
    exact xb_X6_hasAllFields_62 uk hK2 hk1 h
  · replace h := uu_neg c1 h
    refine uu_iload_n dX6_hasAllFields_29 rfl (List.mem_of_getElem? (i := 3) rfl) ?_
    refine uu_ifb_ne (tgt := 62) dX6_hasAllFields_30 (by decide) (fun c2 => ?_) (fun c2 => ?_)
    · replace h := uu_pos c2 h
      refine uu_lv [0, 1, 2, 3] (lv' := [(0, .ref (B + 1053)), (1, .ref (B + k1)), (2, .int x2), (3, .int (bI b3))]) rfl ?_
      exact xb_X6_hasAllFields_62 uk hK2 hk1 h
    · replace h := uu_neg c2 h
      refine uu_aload_n dX6_hasAllFields_33 rfl (List.mem_of_getElem? (i := 0) rfl) ?_
      refine uu_geta (ci := 6) (N := 6) fX6_14 (by decide) so_1053.is (by decide) (c := 1054) (by decide) dX6_hasAllFields_34 ?_
      refine uu_iload dX6_hasAllFields_37 (List.mem_of_getElem? (i := 4) rfl) ?_
      refine uu_aload_n dX6_hasAllFields_39 rfl (List.mem_of_getElem? (i := 0) rfl) ?_
      refine uu_geta (ci := 6) (N := 6) fX6_31 (by decide) so_1053.is (by decide) (c := 8) (by decide) dX6_hasAllFields_40 ?_
      refine uu_aload_n dX6_hasAllFields_43 rfl (List.mem_of_getElem? (i := 1) rfl) ?_
      refine uu_getc (ci := 3) (N := 15) fX6_137 (by decide) hk1.is (by decide) (c := 1) (by decide) (k2 := k1 + 1) rfl dX6_hasAllFields_44 ?_
      refine uu_iconst (v := 0) dX6_hasAllFields_47 (by decide) ?_
      obtain ⟨v3, e4, h⟩ := uu_ob h
      refine uu_iald e4 dX6_hasAllFields_48 ?_
      refine uu_iload_n dX6_hasAllFields_49 rfl (List.mem_of_getElem? (i := 2) rfl) ?_
      refine uu_iadd dX6_hasAllFields_50 ?_
      refine uu_iconst (v := 1) dX6_hasAllFields_51 (by decide) ?_
      obtain ⟨v5, e6, h⟩ := uu_ob h
      refine uu_cv (d1 := 1) (k := 1054) (ci := 9) (T := TX9) (N := 6) (As := [.int x4, .ref (B + 8), .int (v3 + x2), .int 1]) (st := []) (st' := [.int (bI v5)]) (xc_X9_isSameText uk so_1054 so_8 e6) so_1054.is (by decide) rfl kX9_isSameText lX6_143 sX9_isSameText (by decide) (Nat.le_of_ble_eq_true rfl) dX6_hasAllFields_52 rfl ?_
      refine uu_istore_n dX6_hasAllFields_55 rfl (by decide) rfl ?_
      refine uu_iinc (v := x4 + 1) dX6_hasAllFields_56 (k := 4) rfl rfl (by decide) rfl ?_
      refine uu_goto (tgt := 17) dX6_hasAllFields_59 (by decide) ?_
      refine uu_lv [2, 3, 4, 1, 0] (lv' := [(0, .ref (B + 1053)), (1, .ref (B + k1)), (2, .int x2), (3, .int (bI v5)), (4, .int (x4 + 1))]) rfl ?_
      exact hK17 k1 x2 v5 (x4 + 1) hk1 _ _ h
def fn_X6_hasAllFields_17 (K2 : Nat → Int32 → uS → Option Bool) : Nat → Nat → Int32 → Bool → Int32 → uS → Option Bool
  | 0 => fun _ _ _ _ _ => none
  | n + 1 => fb_X6_hasAllFields_17 K2 (fn_X6_hasAllFields_17 K2 n)
set_option maxRecDepth 100000 in
set_option maxHeartbeats 4000000 in
theorem xn_X6_hasAllFields_17 {l : Launch} {D : va_G} {A : Nat → ClassId} {B : Nat} {Z : State → Heap → Prop} {vF : Value} (uk : uK B Z vF) {K2 : Nat → Int32 → uS → Option Bool} (hK2 : ∀ (k1 : Nat) (x2 : Int32) (hk1 : uSo k1 3) (s : uS) (r : Bool), K2 k1 x2 s = some r → GU l D A B Z mX6_hasAllFields 2 (s, some (.int (bI r))) s 2 [(0, .ref (B + 1053)), (1, .ref (B + k1)), (2, .int x2)] []) : ∀ (n : Nat) (k1 : Nat) (x2 : Int32) (b3 : Bool) (x4 : Int32) (hk1 : uSo k1 3) (s : uS) (r : Bool), fn_X6_hasAllFields_17 K2 n k1 x2 b3 x4 s = some r → GU l D A B Z mX6_hasAllFields 2 (s, some (.int (bI r))) s 17 [(0, .ref (B + 1053)), (1, .ref (B + k1)), (2, .int x2), (3, .int (bI b3)), (4, .int x4)] [] := by
  intro n
  induction n with
  | zero => intro k1 x2 b3 x4 hk1 s r h
            cases h
  | succ n ih => intro k1 x2 b3 x4 hk1 s r h
                 exact xb_X6_hasAllFields_17 uk hK2 ih hk1 h
def fb_X6_hasAllFields_2 (K2 : Nat → Int32 → uS → Option Bool) (k1 : Nat) (x2 : Int32) (s : uS) : Option Bool := (iget 20 s (k1 + 2) 0).bind fun v1 => if v1 ≤ x2 then (some true) else (fn_X6_hasAllFields_17 K2 uFu k1 x2 false 0 s)
set_option maxRecDepth 100000 in
set_option maxHeartbeats 4000000 in
theorem xb_X6_hasAllFields_2 {l : Launch} {D : va_G} {A : Nat → ClassId} {B : Nat} {Z : State → Heap → Prop} {vF : Value} (uk : uK B Z vF) {K2 : Nat → Int32 → uS → Option Bool} (hK2 : ∀ (k1 : Nat) (x2 : Int32) (hk1 : uSo k1 3) (s : uS) (r : Bool), K2 k1 x2 s = some r → GU l D A B Z mX6_hasAllFields 2 (s, some (.int (bI r))) s 2 [(0, .ref (B + 1053)), (1, .ref (B + k1)), (2, .int x2)] []) {k1 : Nat} {x2 : Int32} {s : uS} {r : Bool} (hk1 : uSo k1 3) (h : fb_X6_hasAllFields_2 K2 k1 x2 s = some r) : GU l D A B Z mX6_hasAllFields 2 (s, some (.int (bI r))) s 2 [(0, .ref (B + 1053)), (1, .ref (B + k1)), (2, .int x2)] [] := by
  unfold fb_X6_hasAllFields_2 at h
  refine uu_iload_n dX6_hasAllFields_2 rfl (List.mem_of_getElem? (i := 2) rfl) ?_
  refine uu_aload_n dX6_hasAllFields_3 rfl (List.mem_of_getElem? (i := 1) rfl) ?_
  refine uu_getc (ci := 3) (N := 15) fX6_140 (by decide) hk1.is (by decide) (c := 2) (by decide) (k2 := k1 + 2) rfl dX6_hasAllFields_4 ?_
  refine uu_iconst (v := 0) dX6_hasAllFields_7 (by decide) ?_
  obtain ⟨v1, e2, h⟩ := uu_ob h
  refine uu_iald e2 dX6_hasAllFields_8 ?_
  refine uu_icmp_ge (tgt := 74) dX6_hasAllFields_9 (by decide) (fun c3 => ?_) (fun c3 => ?_)
  · replace h := uu_pos c3 h
    refine uu_iconst (v := 1) dX6_hasAllFields_74 (by decide) ?_
    have hr := Option.some.inj h
    subst hr
    exact uu_zret (x := bI true) rfl (bI_z _) dX6_hasAllFields_75
  · replace h := uu_neg c3 h
    refine uu_iconst (v := 0) dX6_hasAllFields_12 (by decide) ?_
    refine uu_istore_n dX6_hasAllFields_13 rfl (by decide) rfl ?_
    refine uu_iconst (v := 0) dX6_hasAllFields_14 (by decide) ?_
    refine uu_istore dX6_hasAllFields_15 (by decide) rfl ?_
    refine uu_lv [2, 3, 4, 1, 0] (lv' := [(0, .ref (B + 1053)), (1, .ref (B + k1)), (2, .int x2), (3, .int 0), (4, .int 0)]) rfl ?_
    exact xn_X6_hasAllFields_17 uk hK2 _ _ _ _ _ hk1 _ _ h
def fn_X6_hasAllFields_2  : Nat → Nat → Int32 → uS → Option Bool
  | 0 => fun _ _ _ => none
  | n + 1 => fb_X6_hasAllFields_2 (fn_X6_hasAllFields_2  n)
set_option maxRecDepth 100000 in
set_option maxHeartbeats 4000000 in
theorem xn_X6_hasAllFields_2 {l : Launch} {D : va_G} {A : Nat → ClassId} {B : Nat} {Z : State → Heap → Prop} {vF : Value} (uk : uK B Z vF)   : ∀ (n : Nat) (k1 : Nat) (x2 : Int32) (hk1 : uSo k1 3) (s : uS) (r : Bool), fn_X6_hasAllFields_2  n k1 x2 s = some r → GU l D A B Z mX6_hasAllFields 2 (s, some (.int (bI r))) s 2 [(0, .ref (B + 1053)), (1, .ref (B + k1)), (2, .int x2)] [] := by
  intro n
  induction n with
  | zero => intro k1 x2 hk1 s r h
            cases h
  | succ n ih => intro k1 x2 hk1 s r h
                 exact xb_X6_hasAllFields_2 uk ih hk1 h
def fn_X6_hasAllFields (k1 : Nat) (s : uS) : Option Bool := fn_X6_hasAllFields_2 uFu k1 0 s
set_option maxRecDepth 100000 in
set_option maxHeartbeats 4000000 in
theorem xc_X6_hasAllFields {l : Launch} {D : va_G} {A : Nat → ClassId} {B : Nat} {Z : State → Heap → Prop} {vF : Value} (uk : uK B Z vF) {k1 : Nat} {s : uS} {r : Bool} (hk1 : uSo k1 3) (h : fn_X6_hasAllFields k1 s = some r) : CU l D A B Z 2 mX6_hasAllFields s [.ref (B + 1053), .ref (B + k1)] (s, some (.int (bI r))) := by
  unfold fn_X6_hasAllFields at h
  refine cu_of rfl uk.1.1 (Nat.le_of_ble_eq_true rfl) ?_
  show GU _ _ _ _ _ _ _ _ _ 0 [(0, .ref (B + 1053)), (1, .ref (B + k1))] []
  refine uu_iconst (v := 0) dX6_hasAllFields_0 (by decide) ?_
  refine uu_istore_n dX6_hasAllFields_1 rfl (by decide) rfl ?_
  refine uu_lv [1, 2, 0] (lv' := [(0, .ref (B + 1053)), (1, .ref (B + k1)), (2, .int 0)]) rfl ?_
  exact xn_X6_hasAllFields_2 uk  _ _ _ hk1 _ _ h
abbrev mX9_putNumber : hM := (yX9_putNumber, cX9_putNumber, 3, none)
theorem dX9_putNumber_17 : decode cX9_putNumber 17 = .ok (.aload_n 0, 1) := by decide +kernel
theorem dX9_putNumber_18 : decode cX9_putNumber 18 = .ok (.bipush 48, 2) := by decide +kernel
theorem dX9_putNumber_20 : decode cX9_putNumber 20 = .ok (.iload_n 1, 1) := by decide +kernel
theorem dX9_putNumber_21 : decode cX9_putNumber 21 = .ok (.iload_n 2, 1) := by decide +kernel
theorem dX9_putNumber_22 : decode cX9_putNumber 22 = .ok (.idiv, 1) := by decide +kernel
theorem dX9_putNumber_23 : decode cX9_putNumber 23 = .ok (.bipush 10, 2) := by decide +kernel
theorem dX9_putNumber_25 : decode cX9_putNumber 25 = .ok (.irem, 1) := by decide +kernel
theorem dX9_putNumber_26 : decode cX9_putNumber 26 = .ok (.iadd, 1) := by decide +kernel
theorem dX9_putNumber_27 : decode cX9_putNumber 27 = .ok (.invokevirtual 40, 3) := by decide +kernel
theorem dX9_putNumber_30 : decode cX9_putNumber 30 = .ok (.iload_n 2, 1) := by decide +kernel
theorem dX9_putNumber_31 : decode cX9_putNumber 31 = .ok (.bipush 10, 2) := by decide +kernel
theorem dX9_putNumber_33 : decode cX9_putNumber 33 = .ok (.idiv, 1) := by decide +kernel
theorem dX9_putNumber_34 : decode cX9_putNumber 34 = .ok (.istore_n 2, 1) := by decide +kernel
theorem dX9_putNumber_35 : decode cX9_putNumber 35 = .ok (.goto (-32), 3) := by decide +kernel
theorem dX9_putNumber_3 : decode cX9_putNumber 3 = .ok (.iload_n 2, 1) := by decide +kernel
theorem dX9_putNumber_4 : decode cX9_putNumber 4 = .ok (.ifCond .le 34, 3) := by decide +kernel
theorem dX9_putNumber_38 : decode cX9_putNumber 38 = .ok (.return_, 1) := by decide +kernel
theorem dX9_putNumber_7 : decode cX9_putNumber 7 = .ok (.iload_n 1, 1) := by decide +kernel
theorem dX9_putNumber_8 : decode cX9_putNumber 8 = .ok (.iload_n 2, 1) := by decide +kernel
theorem dX9_putNumber_9 : decode cX9_putNumber 9 = .ok (.if_icmp .ge 8, 3) := by decide +kernel
theorem dX9_putNumber_12 : decode cX9_putNumber 12 = .ok (.iload_n 2, 1) := by decide +kernel
theorem dX9_putNumber_13 : decode cX9_putNumber 13 = .ok (.iconst 1, 1) := by decide +kernel
theorem dX9_putNumber_14 : decode cX9_putNumber 14 = .ok (.if_icmp .ne 16, 3) := by decide +kernel
theorem cX9_60 : Cond.constant RX9 60 (1000000000) ∈ lw_g := h_t5 207 rfl rfl
theorem dX9_putNumber_0 : decode cX9_putNumber 0 = .ok (.ldc 60, 2) := by decide +kernel
theorem dX9_putNumber_2 : decode cX9_putNumber 2 = .ok (.istore_n 2, 1) := by decide +kernel
def fb_X9_putNumber_17 (K3 : Nat → Int32 → Int32 → uS → Option uS) (k0 : Nat) (x1 : Int32) (x2 : Int32) (s : uS) : Option uS := if ¬ x2 = 0 then ((fn_X9_put k0 ((48 : Int32) + ((x1 / x2) - (x1 / x2) / 10 * 10)) s).bind fun s2 => K3 k0 x1 (x2 / 10) s2) else none
set_option maxRecDepth 100000 in
set_option maxHeartbeats 4000000 in
theorem xb_X9_putNumber_17 {l : Launch} {D : va_G} {A : Nat → ClassId} {B : Nat} {Z : State → Heap → Prop} {vF : Value} (uk : uK B Z vF) {K3 : Nat → Int32 → Int32 → uS → Option uS} (hK3 : ∀ (k0 : Nat) (x1 : Int32) (x2 : Int32) (hk0 : uSo k0 9) (s : uS) (r : uS), K3 k0 x1 x2 s = some r → GU l D A B Z mX9_putNumber 1 (r, none) s 3 [(0, .ref (B + k0)), (1, .int x1), (2, .int x2)] []) {k0 : Nat} {x1 : Int32} {x2 : Int32} {s : uS} {r : uS} (hk0 : uSo k0 9) (h : fb_X9_putNumber_17 K3 k0 x1 x2 s = some r) : GU l D A B Z mX9_putNumber 1 (r, none) s 17 [(0, .ref (B + k0)), (1, .int x1), (2, .int x2)] [] := by
  unfold fb_X9_putNumber_17 at h
  refine uu_aload_n dX9_putNumber_17 rfl (List.mem_of_getElem? (i := 0) rfl) ?_
  refine uu_bipush (v := 48) dX9_putNumber_18 (by decide) ?_
  refine uu_iload_n dX9_putNumber_20 rfl (List.mem_of_getElem? (i := 1) rfl) ?_
  refine uu_iload_n dX9_putNumber_21 rfl (List.mem_of_getElem? (i := 2) rfl) ?_
  obtain ⟨g1, h⟩ := uu_grd h
  refine uu_idiv dX9_putNumber_22 g1 ?_
  refine uu_bipush (v := 10) dX9_putNumber_23 (by decide) ?_
  refine uu_irem dX9_putNumber_25 (by decide) ?_
  refine uu_iadd dX9_putNumber_26 ?_
  obtain ⟨s2, e3, h⟩ := uu_ob h
  refine uu_cv (d1 := 0) (k := k0) (ci := 9) (T := TX9) (N := 6) (As := [.int ((48 : Int32) + ((x1 / x2) - (x1 / x2) / 10 * 10))]) (st := []) (st' := []) (xc_X9_put uk hk0 e3) hk0.is (by decide) rfl kX9_put lX9_40 sX9_put (by decide) (Nat.le_of_ble_eq_true rfl) dX9_putNumber_27 rfl ?_
  refine uu_iload_n dX9_putNumber_30 rfl (List.mem_of_getElem? (i := 2) rfl) ?_
  refine uu_bipush (v := 10) dX9_putNumber_31 (by decide) ?_
  refine uu_idiv dX9_putNumber_33 (by decide) ?_
  refine uu_istore_n dX9_putNumber_34 rfl (by decide) rfl ?_
  refine uu_goto (tgt := 3) dX9_putNumber_35 (by decide) ?_
  refine uu_lv [1, 2, 0] (lv' := [(0, .ref (B + k0)), (1, .int x1), (2, .int (x2 / 10))]) rfl ?_
  exact hK3 k0 x1 (x2 / 10) hk0 _ _ h
def fb_X9_putNumber_3 (K3 : Nat → Int32 → Int32 → uS → Option uS) (k0 : Nat) (x1 : Int32) (x2 : Int32) (s : uS) : Option uS := if x2 ≤ 0 then (some s) else (if x2 ≤ x1 then (fb_X9_putNumber_17 K3 k0 x1 x2 s) else (if x2 = 1 then (fb_X9_putNumber_17 K3 k0 x1 x2 s) else (K3 k0 x1 (x2 / 10) s)))
set_option maxRecDepth 100000 in
set_option maxHeartbeats 4000000 in
theorem xb_X9_putNumber_3 {l : Launch} {D : va_G} {A : Nat → ClassId} {B : Nat} {Z : State → Heap → Prop} {vF : Value} (uk : uK B Z vF) {K3 : Nat → Int32 → Int32 → uS → Option uS} (hK3 : ∀ (k0 : Nat) (x1 : Int32) (x2 : Int32) (hk0 : uSo k0 9) (s : uS) (r : uS), K3 k0 x1 x2 s = some r → GU l D A B Z mX9_putNumber 1 (r, none) s 3 [(0, .ref (B + k0)), (1, .int x1), (2, .int x2)] []) {k0 : Nat} {x1 : Int32} {x2 : Int32} {s : uS} {r : uS} (hk0 : uSo k0 9) (h : fb_X9_putNumber_3 K3 k0 x1 x2 s = some r) : GU l D A B Z mX9_putNumber 1 (r, none) s 3 [(0, .ref (B + k0)), (1, .int x1), (2, .int x2)] [] := by
  unfold fb_X9_putNumber_3 at h
  refine uu_iload_n dX9_putNumber_3 rfl (List.mem_of_getElem? (i := 2) rfl) ?_
  refine uu_if_le (tgt := 38) dX9_putNumber_4 (by decide) (fun c1 => ?_) (fun c1 => ?_)
  · replace h := uu_pos c1 h
    have hr := Option.some.inj h
    subst hr
    exact uu_vret rfl dX9_putNumber_38
  · replace h := uu_neg c1 h
    refine uu_iload_n dX9_putNumber_7 rfl (List.mem_of_getElem? (i := 1) rfl) ?_
    refine uu_iload_n dX9_putNumber_8 rfl (List.mem_of_getElem? (i := 2) rfl) ?_
    refine uu_icmp_ge (tgt := 17) dX9_putNumber_9 (by decide) (fun c2 => ?_) (fun c2 => ?_)
    · replace h := uu_pos c2 h
      exact xb_X9_putNumber_17 uk hK3 hk0 h
    · replace h := uu_neg c2 h
      refine uu_iload_n dX9_putNumber_12 rfl (List.mem_of_getElem? (i := 2) rfl) ?_
      refine uu_iconst (v := 1) dX9_putNumber_13 (by decide) ?_
      refine uu_icmp_ne (tgt := 30) dX9_putNumber_14 (by decide) (fun c3 => ?_) (fun c3 => ?_)
      · replace h := uu_neg c3 h
        refine uu_iload_n dX9_putNumber_30 rfl (List.mem_of_getElem? (i := 2) rfl) ?_
        refine uu_bipush (v := 10) dX9_putNumber_31 (by decide) ?_
        refine uu_idiv dX9_putNumber_33 (by decide) ?_
        refine uu_istore_n dX9_putNumber_34 rfl (by decide) rfl ?_
        refine uu_goto (tgt := 3) dX9_putNumber_35 (by decide) ?_
        refine uu_lv [1, 2, 0] (lv' := [(0, .ref (B + k0)), (1, .int x1), (2, .int (x2 / 10))]) rfl ?_
        exact hK3 k0 x1 (x2 / 10) hk0 _ _ h
      · replace h := uu_pos c3 h
        exact xb_X9_putNumber_17 uk hK3 hk0 h
def fn_X9_putNumber_3  : Nat → Nat → Int32 → Int32 → uS → Option uS
  | 0 => fun _ _ _ _ => none
  | n + 1 => fb_X9_putNumber_3 (fn_X9_putNumber_3  n)
set_option maxRecDepth 100000 in
set_option maxHeartbeats 4000000 in
theorem xn_X9_putNumber_3 {l : Launch} {D : va_G} {A : Nat → ClassId} {B : Nat} {Z : State → Heap → Prop} {vF : Value} (uk : uK B Z vF)   : ∀ (n : Nat) (k0 : Nat) (x1 : Int32) (x2 : Int32) (hk0 : uSo k0 9) (s : uS) (r : uS), fn_X9_putNumber_3  n k0 x1 x2 s = some r → GU l D A B Z mX9_putNumber 1 (r, none) s 3 [(0, .ref (B + k0)), (1, .int x1), (2, .int x2)] [] := by
  intro n
  induction n with
  | zero => intro k0 x1 x2 hk0 s r h
            cases h
  | succ n ih => intro k0 x1 x2 hk0 s r h
                 exact xb_X9_putNumber_3 uk ih hk0 h
def fn_X9_putNumber (k0 : Nat) (x1 : Int32) (s : uS) : Option uS := fn_X9_putNumber_3 uFu k0 x1 1000000000 s
set_option maxRecDepth 100000 in
set_option maxHeartbeats 4000000 in
theorem xc_X9_putNumber {l : Launch} {D : va_G} {A : Nat → ClassId} {B : Nat} {Z : State → Heap → Prop} {vF : Value} (uk : uK B Z vF) {k0 : Nat} {x1 : Int32} {s : uS} {r : uS} (hk0 : uSo k0 9) (h : fn_X9_putNumber k0 x1 s = some r) : CU l D A B Z 1 mX9_putNumber s [.ref (B + k0), .int x1] (r, none) := by
  unfold fn_X9_putNumber at h
  refine cu_of rfl uk.1.1 (Nat.le_of_ble_eq_true rfl) ?_
  show GU _ _ _ _ _ _ _ _ _ 0 [(0, .ref (B + k0)), (1, .int x1)] []
  refine uu_ldc (v := 1000000000) cX9_60 dX9_putNumber_0 ?_
  refine uu_istore_n dX9_putNumber_2 rfl (by decide) rfl ?_
  refine uu_lv [1, 2, 0] (lv' := [(0, .ref (B + k0)), (1, .int x1), (2, .int 1000000000)]) rfl ?_
  exact xn_X9_putNumber_3 uk  _ _ _ _ hk0 _ _ h
