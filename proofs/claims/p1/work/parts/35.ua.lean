def fn_X9_clear (k0 : Nat) (s : uS) : Option uS := some (wI (wI (wI s k0 3 0) k0 4 0) k0 5 0)
set_option maxRecDepth 100000 in
set_option maxHeartbeats 4000000 in
theorem xc_X9_clear {l : Launch} {D : va_G} {A : Nat → ClassId} {B : Nat} {Z : State → Heap → Prop} {vF : Value} (uk : uK B Z vF) {k0 : Nat} {s : uS} {r : uS} (hk0 : uSo k0 9) (h : fn_X9_clear k0 s = some r) : CU l D A B Z 0 mX9_clear s [.ref (B + k0)] (r, none) := by
  unfold fn_X9_clear at h
  refine cu_of rfl uk.1.1 (Nat.le_of_ble_eq_true rfl) ?_
  show GU _ _ _ _ _ _ _ _ _ 0 [(0, .ref (B + k0))] []
  refine uu_aload_n dX9_clear_0 rfl (List.mem_of_getElem? (i := 0) rfl) ?_
  refine uu_iconst (v := 0) dX9_clear_1 (by decide) ?_
  refine uu_puti (ft := .int) (ci := 9) (N := 6) fX9_20 ptX9 (Or.inl rfl) (by decide) hk0.is (by decide) (by decide) (by decide +kernel) rfl rfl dX9_clear_2 ?_
  refine uu_aload_n dX9_clear_5 rfl (List.mem_of_getElem? (i := 0) rfl) ?_
  refine uu_iconst (v := 0) dX9_clear_6 (by decide) ?_
  refine uu_puti (ft := .int) (ci := 9) (N := 6) fX9_24 ptX9 (Or.inl rfl) (by decide) hk0.is (by decide) (by decide) (by decide +kernel) rfl rfl dX9_clear_7 ?_
  refine uu_aload_n dX9_clear_10 rfl (List.mem_of_getElem? (i := 0) rfl) ?_
  refine uu_iconst (v := 0) dX9_clear_11 (by decide) ?_
  refine uu_puti (ft := .int) (ci := 9) (N := 6) fX9_27 ptX9 (Or.inl rfl) (by decide) hk0.is (by decide) (by decide) (by decide +kernel) rfl rfl dX9_clear_12 ?_
  have hr := Option.some.inj h
  subst hr
  exact uu_vret rfl dX9_clear_15
def fn_X0_close  (s : uS) : Option uS := (fn_X9_clear 1043 (wI (wI (wI (wI (wI s 1042 4 0) 1042 10 0) 1042 9 0) 1042 7 0) 1042 8 0)).bind fun s1 => (fn_X9_clear 1047 s1).bind fun s3 => some s3
set_option maxRecDepth 100000 in
set_option maxHeartbeats 4000000 in
theorem xc_X0_close {l : Launch} {D : va_G} {A : Nat → ClassId} {B : Nat} {Z : State → Heap → Prop} {vF : Value} (uk : uK B Z vF)  {s : uS} {r : uS}  (h : fn_X0_close  s = some r) : CU l D A B Z 1 mX0_close s [.ref (B + 1042)] (r, none) := by
  unfold fn_X0_close at h
  refine cu_of rfl uk.1.1 (Nat.le_of_ble_eq_true rfl) ?_
  show GU _ _ _ _ _ _ _ _ _ 0 [(0, .ref (B + 1042))] []
  refine uu_aload_n dX0_close_0 rfl (List.mem_of_getElem? (i := 0) rfl) ?_
  refine uu_iconst (v := 0) dX0_close_1 (by decide) ?_
  refine uu_puti (ft := .boolean) (ci := 0) (N := 12) fX0_35 ptX0 (Or.inl rfl) (by decide) so_1042.is (by decide) (by decide) (by decide +kernel) rfl rfl dX0_close_2 ?_
  refine uu_aload_n dX0_close_5 rfl (List.mem_of_getElem? (i := 0) rfl) ?_
  refine uu_iconst (v := 0) dX0_close_6 (by decide) ?_
  refine uu_puti (ft := .boolean) (ci := 0) (N := 12) fX0_46 ptX0 (Or.inl rfl) (by decide) so_1042.is (by decide) (by decide) (by decide +kernel) rfl rfl dX0_close_7 ?_
  refine uu_aload_n dX0_close_10 rfl (List.mem_of_getElem? (i := 0) rfl) ?_
  refine uu_iconst (v := 0) dX0_close_11 (by decide) ?_
  refine uu_puti (ft := .boolean) (ci := 0) (N := 12) fX0_49 ptX0 (Or.inl rfl) (by decide) so_1042.is (by decide) (by decide) (by decide +kernel) rfl rfl dX0_close_12 ?_
  refine uu_aload_n dX0_close_15 rfl (List.mem_of_getElem? (i := 0) rfl) ?_
  refine uu_iconst (v := 0) dX0_close_16 (by decide) ?_
  refine uu_puti (ft := .int) (ci := 0) (N := 12) fX0_52 ptX0 (Or.inl rfl) (by decide) so_1042.is (by decide) (by decide) (by decide +kernel) rfl rfl dX0_close_17 ?_
  refine uu_aload_n dX0_close_20 rfl (List.mem_of_getElem? (i := 0) rfl) ?_
  refine uu_iconst (v := 0) dX0_close_21 (by decide) ?_
  refine uu_puti (ft := .int) (ci := 0) (N := 12) fX0_56 ptX0 (Or.inl rfl) (by decide) so_1042.is (by decide) (by decide) (by decide +kernel) rfl rfl dX0_close_22 ?_
  refine uu_aload_n dX0_close_25 rfl (List.mem_of_getElem? (i := 0) rfl) ?_
  refine uu_geta (ci := 0) (N := 12) fX0_12 (by decide) so_1042.is (by decide) (c := 1043) (by decide) dX0_close_26 ?_
  obtain ⟨s1, e2, h⟩ := uu_ob h
  refine uu_cv (d1 := 0) (k := 1043) (ci := 9) (T := TX9) (N := 6) (As := []) (st := []) (st' := []) (xc_X9_clear uk so_1043 e2) so_1043.is (by decide) rfl kX9_clear lX0_59 sX9_clear (by decide) (Nat.le_of_ble_eq_true rfl) dX0_close_29 rfl ?_
  refine uu_aload_n dX0_close_32 rfl (List.mem_of_getElem? (i := 0) rfl) ?_
  refine uu_geta (ci := 0) (N := 12) fX0_18 (by decide) so_1042.is (by decide) (c := 1047) (by decide) dX0_close_33 ?_
  obtain ⟨s3, e4, h⟩ := uu_ob h
  refine uu_cv (d1 := 0) (k := 1047) (ci := 9) (T := TX9) (N := 6) (As := []) (st := []) (st' := []) (xc_X9_clear uk so_1047 e4) so_1047.is (by decide) rfl kX9_clear lX0_59 sX9_clear (by decide) (Nat.le_of_ble_eq_true rfl) dX0_close_36 rfl ?_
  have hr := Option.some.inj h
  subst hr
  exact uu_vret rfl dX0_close_39
def fn_X5_put (k0 : Nat) (x1 : Int32) (s : uS) : Option uS := if (10000 : Int32) ≤ (s.I k0 2) then (some s) else ((iput 21 s (k0 + 1) (((s.I k0 1) + (s.I k0 2)) - ((s.I k0 1) + (s.I k0 2)) / 10000 * 10000) x1.toInt8.toInt32).bind fun s2 => some (wI s2 k0 2 ((s2.I k0 2) + 1)))
set_option maxRecDepth 100000 in
set_option maxHeartbeats 4000000 in
theorem xc_X5_put {l : Launch} {D : va_G} {A : Nat → ClassId} {B : Nat} {Z : State → Heap → Prop} {vF : Value} (uk : uK B Z vF) {k0 : Nat} {x1 : Int32} {s : uS} {r : uS} (hk0 : uSo k0 5) (h : fn_X5_put k0 x1 s = some r) : CU l D A B Z 0 mX5_put s [.ref (B + k0), .int x1] (r, none) := by
  unfold fn_X5_put at h
  refine cu_of rfl uk.1.1 (Nat.le_of_ble_eq_true rfl) ?_
  show GU _ _ _ _ _ _ _ _ _ 0 [(0, .ref (B + k0)), (1, .int x1)] []
  refine uu_aload_n dX5_put_0 rfl (List.mem_of_getElem? (i := 0) rfl) ?_
  refine uu_geti (ci := 5) (N := 3) fX5_13 (by decide) hk0.is (by decide) (by decide) dX5_put_1 ?_
  refine uu_sipush (v := 10000) dX5_put_4 (by decide) ?_
  refine uu_icmp_ge (tgt := 40) dX5_put_7 (by decide) (fun c1 => ?_) (fun c1 => ?_)
  · replace h := uu_pos c1 h
    have hr := Option.some.inj h
    subst hr
    exact uu_vret rfl dX5_put_40
  · replace h := uu_neg c1 h
    refine uu_aload_n dX5_put_10 rfl (List.mem_of_getElem? (i := 0) rfl) ?_
    refine uu_getc (ci := 5) (N := 3) fX5_9 (by decide) hk0.is (by decide) (c := 1) (by decide) (k2 := k0 + 1) rfl dX5_put_11 ?_
    refine uu_aload_n dX5_put_14 rfl (List.mem_of_getElem? (i := 0) rfl) ?_
    refine uu_geti (ci := 5) (N := 3) fX5_17 (by decide) hk0.is (by decide) (by decide) dX5_put_15 ?_
    refine uu_aload_n dX5_put_18 rfl (List.mem_of_getElem? (i := 0) rfl) ?_
    refine uu_geti (ci := 5) (N := 3) fX5_13 (by decide) hk0.is (by decide) (by decide) dX5_put_19 ?_
    refine uu_iadd dX5_put_22 ?_
    refine uu_sipush (v := 10000) dX5_put_23 (by decide) ?_
    refine uu_irem dX5_put_26 (by decide) ?_
    refine uu_iload_n dX5_put_27 rfl (List.mem_of_getElem? (i := 1) rfl) ?_
    refine uu_i2b dX5_put_28 rfl ?_
    obtain ⟨s2, e3, h⟩ := uu_ob h
    refine uu_bast e3 dX5_put_29 ?_
    refine uu_aload_n dX5_put_30 rfl (List.mem_of_getElem? (i := 0) rfl) ?_
    refine uu_dup dX5_put_31 rfl ?_
    refine uu_geti (ci := 5) (N := 3) fX5_13 (by decide) hk0.is (by decide) (by decide) dX5_put_32 ?_
    refine uu_iconst (v := 1) dX5_put_35 (by decide) ?_
    refine uu_iadd dX5_put_36 ?_
    refine uu_puti (ft := .int) (ci := 5) (N := 3) fX5_13 ptX5 (Or.inl rfl) (by decide) hk0.is (by decide) (by decide) (by decide +kernel) rfl rfl dX5_put_37 ?_
    have hr := Option.some.inj h
    subst hr
    exact uu_vret rfl dX5_put_40
def fb_X5_text_2 (K2 : Nat → List Nat → Int32 → uS → Option uS) (k0 : Nat) (w1 : List Nat) (x2 : Int32) (s : uS) : Option uS := if (nI w1.length) ≤ x2 then (some s) else ((stget w1 x2).bind fun v2 => (fn_X5_put k0 v2 s).bind fun s4 => K2 k0 w1 (x2 + 1) s4)
set_option maxRecDepth 100000 in
set_option maxHeartbeats 4000000 in
theorem xb_X5_text_2 {l : Launch} {D : va_G} {A : Nat → ClassId} {B : Nat} {Z : State → Heap → Prop} {vF : Value} (uk : uK B Z vF) {K2 : Nat → List Nat → Int32 → uS → Option uS} (hK2 : ∀ (k0 : Nat) (w1 : List Nat) (x2 : Int32) (hk0 : uSo k0 5) {qw1 pw1 : Nat} (hw1 : uStr B Z qw1 pw1 w1) (s : uS) (r : uS), K2 k0 w1 x2 s = some r → GU l D A B Z mX5_text 4 (r, none) s 2 [(0, .ref (B + k0)), (1, .ref qw1), (2, .int x2)] []) {k0 : Nat} {w1 : List Nat} {x2 : Int32} {s : uS} {r : uS} (hk0 : uSo k0 5) {qw1 pw1 : Nat} (hw1 : uStr B Z qw1 pw1 w1) (h : fb_X5_text_2 K2 k0 w1 x2 s = some r) : GU l D A B Z mX5_text 4 (r, none) s 2 [(0, .ref (B + k0)), (1, .ref qw1), (2, .int x2)] [] := by
  unfold fb_X5_text_2 at h
  refine uu_iload_n dX5_text_2 rfl (List.mem_of_getElem? (i := 2) rfl) ?_
  refine uu_aload_n dX5_text_3 rfl (List.mem_of_getElem? (i := 1) rfl) ?_
  refine uu_slen uk hw1 lX5_20 (by decide) (Nat.le_of_ble_eq_true rfl) dX5_text_4 ?_
  refine uu_icmp_ge (tgt := 25) dX5_text_7 (by decide) (fun c1 => ?_) (fun c1 => ?_)
  · replace h := uu_pos c1 h
    have hr := Option.some.inj h
    subst hr
    exact uu_vret rfl dX5_text_25
  · replace h := uu_neg c1 h
    refine uu_aload_n dX5_text_10 rfl (List.mem_of_getElem? (i := 0) rfl) ?_
    refine uu_aload_n dX5_text_11 rfl (List.mem_of_getElem? (i := 1) rfl) ?_
    refine uu_iload_n dX5_text_12 rfl (List.mem_of_getElem? (i := 2) rfl) ?_
    obtain ⟨v2, e3, h⟩ := uu_ob h
    refine uu_sch uk hw1 e3 lX5_26 (by decide) (Nat.le_of_ble_eq_true rfl) dX5_text_13 ?_
    obtain ⟨s4, e5, h⟩ := uu_ob h
    refine uu_cv (d1 := 0) (k := k0) (ci := 5) (T := TX5) (N := 3) (As := [.int v2]) (st := []) (st' := []) (xc_X5_put uk hk0 e5) hk0.is (by decide) rfl kX5_put lX5_30 sX5_put (by decide) (Nat.le_of_ble_eq_true rfl) dX5_text_16 rfl ?_
    refine uu_iinc (v := x2 + 1) dX5_text_19 (k := 2) rfl rfl (by decide) rfl ?_
    refine uu_goto (tgt := 2) dX5_text_22 (by decide) ?_
    refine uu_lv [1, 2, 0] (lv' := [(0, .ref (B + k0)), (1, .ref qw1), (2, .int (x2 + 1))]) rfl ?_
    exact hK2 k0 w1 (x2 + 1) hk0 hw1 _ _ h
def fn_X5_text_2  : Nat → Nat → List Nat → Int32 → uS → Option uS
  | 0 => fun _ _ _ _ => none
  | n + 1 => fb_X5_text_2 (fn_X5_text_2  n)
set_option maxRecDepth 100000 in
set_option maxHeartbeats 4000000 in
theorem xn_X5_text_2 {l : Launch} {D : va_G} {A : Nat → ClassId} {B : Nat} {Z : State → Heap → Prop} {vF : Value} (uk : uK B Z vF)   : ∀ (n : Nat) (k0 : Nat) (w1 : List Nat) (x2 : Int32) (hk0 : uSo k0 5) {qw1 pw1 : Nat} (hw1 : uStr B Z qw1 pw1 w1) (s : uS) (r : uS), fn_X5_text_2  n k0 w1 x2 s = some r → GU l D A B Z mX5_text 4 (r, none) s 2 [(0, .ref (B + k0)), (1, .ref qw1), (2, .int x2)] [] := by
  intro n
  induction n with
  | zero => intro k0 w1 x2 hk0 qw1 pw1 hw1 s r h
            cases h
  | succ n ih => intro k0 w1 x2 hk0 qw1 pw1 hw1 s r h
                 exact xb_X5_text_2 uk ih hk0 hw1 h
def fn_X5_text (k0 : Nat) (w1 : List Nat) (s : uS) : Option uS := fn_X5_text_2 uFu k0 w1 0 s
set_option maxRecDepth 100000 in
set_option maxHeartbeats 4000000 in
theorem xc_X5_text {l : Launch} {D : va_G} {A : Nat → ClassId} {B : Nat} {Z : State → Heap → Prop} {vF : Value} (uk : uK B Z vF) {k0 : Nat} {w1 : List Nat} {s : uS} {r : uS} (hk0 : uSo k0 5) {qw1 pw1 : Nat} (hw1 : uStr B Z qw1 pw1 w1) (h : fn_X5_text k0 w1 s = some r) : CU l D A B Z 4 mX5_text s [.ref (B + k0), .ref qw1] (r, none) := by
  unfold fn_X5_text at h
  refine cu_of rfl uk.1.1 (Nat.le_of_ble_eq_true rfl) ?_
  show GU _ _ _ _ _ _ _ _ _ 0 [(0, .ref (B + k0)), (1, .ref qw1)] []
  refine uu_iconst (v := 0) dX5_text_0 (by decide) ?_
  refine uu_istore_n dX5_text_1 rfl (by decide) rfl ?_
  refine uu_lv [1, 2, 0] (lv' := [(0, .ref (B + k0)), (1, .ref qw1), (2, .int 0)]) rfl ?_
  exact xn_X5_text_2 uk  _ _ _ _ hk0 hw1 _ _ h
def fn_X5_line (k0 : Nat) (w1 : List Nat) (s : uS) : Option uS := (fn_X5_text k0 w1 s).bind fun s1 => (fn_X5_put k0 13 s1).bind fun s3 => (fn_X5_put k0 10 s3).bind fun s5 => some s5
set_option maxRecDepth 100000 in
set_option maxHeartbeats 4000000 in
theorem xc_X5_line {l : Launch} {D : va_G} {A : Nat → ClassId} {B : Nat} {Z : State → Heap → Prop} {vF : Value} (uk : uK B Z vF) {k0 : Nat} {w1 : List Nat} {s : uS} {r : uS} (hk0 : uSo k0 5) {qw1 pw1 : Nat} (hw1 : uStr B Z qw1 pw1 w1) (h : fn_X5_line k0 w1 s = some r) : CU l D A B Z 5 mX5_line s [.ref (B + k0), .ref qw1] (r, none) := by
  unfold fn_X5_line at h
  refine cu_of rfl uk.1.1 (Nat.le_of_ble_eq_true rfl) ?_
  show GU _ _ _ _ _ _ _ _ _ 0 [(0, .ref (B + k0)), (1, .ref qw1)] []
  refine uu_aload_n dX5_line_0 rfl (List.mem_of_getElem? (i := 0) rfl) ?_
  refine uu_aload_n dX5_line_1 rfl (List.mem_of_getElem? (i := 1) rfl) ?_
  obtain ⟨s1, e2, h⟩ := uu_ob h
  refine uu_cv (d1 := 4) (k := k0) (ci := 5) (T := TX5) (N := 3) (As := [.ref qw1]) (st := []) (st' := []) (xc_X5_text uk hk0 hw1 e2) hk0.is (by decide) rfl kX5_text lX5_34 sX5_text (by decide) (Nat.le_of_ble_eq_true rfl) dX5_line_2 rfl ?_
  refine uu_aload_n dX5_line_5 rfl (List.mem_of_getElem? (i := 0) rfl) ?_
  refine uu_bipush (v := 13) dX5_line_6 (by decide) ?_
  obtain ⟨s3, e4, h⟩ := uu_ob h
  refine uu_cv (d1 := 0) (k := k0) (ci := 5) (T := TX5) (N := 3) (As := [.int 13]) (st := []) (st' := []) (xc_X5_put uk hk0 e4) hk0.is (by decide) rfl kX5_put lX5_30 sX5_put (by decide) (Nat.le_of_ble_eq_true rfl) dX5_line_8 rfl ?_
  refine uu_aload_n dX5_line_11 rfl (List.mem_of_getElem? (i := 0) rfl) ?_
  refine uu_bipush (v := 10) dX5_line_12 (by decide) ?_
  obtain ⟨s5, e6, h⟩ := uu_ob h
  refine uu_cv (d1 := 0) (k := k0) (ci := 5) (T := TX5) (N := 3) (As := [.int 10]) (st := []) (st' := []) (xc_X5_put uk hk0 e6) hk0.is (by decide) rfl kX5_put lX5_30 sX5_put (by decide) (Nat.le_of_ble_eq_true rfl) dX5_line_14 rfl ?_
  have hr := Option.some.inj h
  subst hr
  exact uu_vret rfl dX5_line_17
def fn_X0_open  (s : uS) : Option uS := (fn_X0_close s).bind fun s1 => (fn_X5_line 1040 kW_10 (wI s1 1042 4 1)).bind fun s4 => some s4
set_option maxRecDepth 100000 in
set_option maxHeartbeats 4000000 in
theorem xc_X0_open {l : Launch} {D : va_G} {A : Nat → ClassId} {B : Nat} {Z : State → Heap → Prop} {vF : Value} (uk : uK B Z vF)  {s : uS} {r : uS}  (h : fn_X0_open  s = some r) : CU l D A B Z 6 mX0_open s [.ref (B + 1042)] (r, none) := by
  unfold fn_X0_open at h
  refine cu_of rfl uk.1.1 (Nat.le_of_ble_eq_true rfl) ?_
  show GU _ _ _ _ _ _ _ _ _ 0 [(0, .ref (B + 1042))] []
  refine uu_aload_n dX0_open_0 rfl (List.mem_of_getElem? (i := 0) rfl) ?_
  obtain ⟨s1, e2, h⟩ := uu_ob h
  refine uu_cv (d1 := 1) (k := 1042) (ci := 0) (T := TX0) (N := 12) (As := []) (st := []) (st' := []) (xc_X0_close uk  e2) so_1042.is (by decide) rfl kX0_close lX0_32 sX0_close (by decide) (Nat.le_of_ble_eq_true rfl) dX0_open_1 rfl ?_
  refine uu_aload_n dX0_open_4 rfl (List.mem_of_getElem? (i := 0) rfl) ?_
  refine uu_iconst (v := 1) dX0_open_5 (by decide) ?_
  refine uu_puti (ft := .boolean) (ci := 0) (N := 12) fX0_35 ptX0 (Or.inl rfl) (by decide) so_1042.is (by decide) (by decide) (by decide +kernel) rfl rfl dX0_open_6 ?_
  refine uu_aload_n dX0_open_9 rfl (List.mem_of_getElem? (i := 0) rfl) ?_
  refine uu_geta (ci := 0) (N := 12) fX0_28 (by decide) so_1042.is (by decide) (c := 1040) (by decide) dX0_open_10 ?_
  obtain ⟨cq3, cp3, cv3, cw3⟩ := uk.2.1 10 _ rfl
  refine uu_ldcS cv3 dX0_open_13 ?_
  obtain ⟨s4, e5, h⟩ := uu_ob h
  refine uu_cv (d1 := 5) (k := 1040) (ci := 5) (T := TX5) (N := 3) (As := [.ref cq3]) (st := []) (st' := []) (xc_X5_line uk so_1040 cw3 e5) so_1040.is (by decide) rfl kX5_line lX0_41 sX5_line (by decide) (Nat.le_of_ble_eq_true rfl) dX0_open_15 rfl ?_
  have hr := Option.some.inj h
  subst hr
  exact uu_vret rfl dX0_open_18
abbrev mX0_forget : hM := (yX0_forget, cX0_forget, 1, none)
theorem dX0_forget_0 : decode cX0_forget 0 = .ok (.aload_n 0, 1) := by decide +kernel
theorem dX0_forget_1 : decode cX0_forget 1 = .ok (.getfield 12, 3) := by decide +kernel
theorem dX0_forget_4 : decode cX0_forget 4 = .ok (.invokevirtual 59, 3) := by decide +kernel
theorem dX0_forget_7 : decode cX0_forget 7 = .ok (.aload_n 0, 1) := by decide +kernel
theorem dX0_forget_8 : decode cX0_forget 8 = .ok (.getfield 18, 3) := by decide +kernel
theorem dX0_forget_11 : decode cX0_forget 11 = .ok (.invokevirtual 59, 3) := by decide +kernel
theorem dX0_forget_14 : decode cX0_forget 14 = .ok (.return_, 1) := by decide +kernel
def fn_X0_forget  (s : uS) : Option uS := (fn_X9_clear 1043 s).bind fun s1 => (fn_X9_clear 1047 s1).bind fun s3 => some s3
set_option maxRecDepth 100000 in
set_option maxHeartbeats 4000000 in
theorem xc_X0_forget {l : Launch} {D : va_G} {A : Nat → ClassId} {B : Nat} {Z : State → Heap → Prop} {vF : Value} (uk : uK B Z vF)  {s : uS} {r : uS}  (h : fn_X0_forget  s = some r) : CU l D A B Z 1 mX0_forget s [.ref (B + 1042)] (r, none) := by
  unfold fn_X0_forget at h
  refine cu_of rfl uk.1.1 (Nat.le_of_ble_eq_true rfl) ?_
  show GU _ _ _ _ _ _ _ _ _ 0 [(0, .ref (B + 1042))] []
  refine uu_aload_n dX0_forget_0 rfl (List.mem_of_getElem? (i := 0) rfl) ?_
  refine uu_geta (ci := 0) (N := 12) fX0_12 (by decide) so_1042.is (by decide) (c := 1043) (by decide) dX0_forget_1 ?_
  obtain ⟨s1, e2, h⟩ := uu_ob h
  refine uu_cv (d1 := 0) (k := 1043) (ci := 9) (T := TX9) (N := 6) (As := []) (st := []) (st' := []) (xc_X9_clear uk so_1043 e2) so_1043.is (by decide) rfl kX9_clear lX0_59 sX9_clear (by decide) (Nat.le_of_ble_eq_true rfl) dX0_forget_4 rfl ?_
  refine uu_aload_n dX0_forget_7 rfl (List.mem_of_getElem? (i := 0) rfl) ?_
  refine uu_geta (ci := 0) (N := 12) fX0_18 (by decide) so_1042.is (by decide) (c := 1047) (by decide) dX0_forget_8 ?_
  obtain ⟨s3, e4, h⟩ := uu_ob h
  refine uu_cv (d1 := 0) (k := 1047) (ci := 9) (T := TX9) (N := 6) (As := []) (st := []) (st' := []) (xc_X9_clear uk so_1047 e4) so_1047.is (by decide) rfl kX9_clear lX0_59 sX9_clear (by decide) (Nat.le_of_ble_eq_true rfl) dX0_forget_11 rfl ?_
  have hr := Option.some.inj h
  subst hr
  exact uu_vret rfl dX0_forget_14
abbrev mX0_isTooBig : hM := (yX0_isTooBig, cX0_isTooBig, 1, (some (.boolean)))
theorem dX0_isTooBig_0 : decode cX0_isTooBig 0 = .ok (.aload_n 0, 1) := by decide +kernel
theorem fX0_62 : h_fl RX0 62 0 3 RX0 TX0 12 := ⟨rfl, by decide, inX0, h_t2 175 rfl rfl⟩
theorem dX0_isTooBig_1 : decode cX0_isTooBig 1 = .ok (.getfield 62, 3) := by decide +kernel
theorem dX0_isTooBig_4 : decode cX0_isTooBig 4 = .ok (.sipush 4000, 3) := by decide +kernel
theorem dX0_isTooBig_7 : decode cX0_isTooBig 7 = .ok (.if_icmp .le 7, 3) := by decide +kernel
theorem dX0_isTooBig_14 : decode cX0_isTooBig 14 = .ok (.iconst 0, 1) := by decide +kernel
theorem dX0_isTooBig_15 : decode cX0_isTooBig 15 = .ok (.ireturn, 1) := by decide +kernel
theorem dX0_isTooBig_10 : decode cX0_isTooBig 10 = .ok (.iconst 1, 1) := by decide +kernel
theorem dX0_isTooBig_11 : decode cX0_isTooBig 11 = .ok (.goto 4, 3) := by decide +kernel
def fn_X0_isTooBig  (s : uS) : Option Bool := if (s.I 1042 3) ≤ 4000 then (some false) else (some true)
set_option maxRecDepth 100000 in
set_option maxHeartbeats 4000000 in
theorem xc_X0_isTooBig {l : Launch} {D : va_G} {A : Nat → ClassId} {B : Nat} {Z : State → Heap → Prop} {vF : Value} (uk : uK B Z vF)  {s : uS} {r : Bool}  (h : fn_X0_isTooBig  s = some r) : CU l D A B Z 0 mX0_isTooBig s [.ref (B + 1042)] (s, some (.int (bI r))) := by
  unfold fn_X0_isTooBig at h
  refine cu_of rfl uk.1.1 (Nat.le_of_ble_eq_true rfl) ?_
  show GU _ _ _ _ _ _ _ _ _ 0 [(0, .ref (B + 1042))] []
  refine uu_aload_n dX0_isTooBig_0 rfl (List.mem_of_getElem? (i := 0) rfl) ?_
  refine uu_geti (ci := 0) (N := 12) fX0_62 (by decide) so_1042.is (by decide) (by decide) dX0_isTooBig_1 ?_
  refine uu_sipush (v := 4000) dX0_isTooBig_4 (by decide) ?_
  refine uu_icmp_le (tgt := 14) dX0_isTooBig_7 (by decide) (fun c1 => ?_) (fun c1 => ?_)
  · replace h := uu_pos c1 h
    refine uu_iconst (v := 0) dX0_isTooBig_14 (by decide) ?_
    have hr := Option.some.inj h
    subst hr
    exact uu_zret (x := bI false) rfl (bI_z _) dX0_isTooBig_15
  · replace h := uu_neg c1 h
    refine uu_iconst (v := 1) dX0_isTooBig_10 (by decide) ?_
    refine uu_goto (tgt := 15) dX0_isTooBig_11 (by decide) ?_
    have hr := Option.some.inj h
    subst hr
    exact uu_zret (x := bI true) rfl (bI_z _) dX0_isTooBig_15
abbrev mX9_has : hM := (yX9_has, cX9_has, 2, (some (.boolean)))
theorem dX9_has_0 : decode cX9_has 0 = .ok (.iload_n 1, 1) := by decide +kernel
theorem dX9_has_1 : decode cX9_has 1 = .ok (.ifCond .lt 15, 3) := by decide +kernel
theorem dX9_has_16 : decode cX9_has 16 = .ok (.iconst 0, 1) := by decide +kernel
theorem dX9_has_17 : decode cX9_has 17 = .ok (.ireturn, 1) := by decide +kernel
theorem dX9_has_4 : decode cX9_has 4 = .ok (.iload_n 1, 1) := by decide +kernel
theorem dX9_has_5 : decode cX9_has 5 = .ok (.aload_n 0, 1) := by decide +kernel
theorem dX9_has_6 : decode cX9_has 6 = .ok (.getfield 20, 3) := by decide +kernel
theorem dX9_has_9 : decode cX9_has 9 = .ok (.if_icmp .ge 7, 3) := by decide +kernel
theorem dX9_has_12 : decode cX9_has 12 = .ok (.iconst 1, 1) := by decide +kernel
theorem dX9_has_13 : decode cX9_has 13 = .ok (.goto 4, 3) := by decide +kernel
def fn_X9_has (k0 : Nat) (x1 : Int32) (s : uS) : Option Bool := if x1 < 0 then (some false) else (if (s.I k0 3) ≤ x1 then (some false) else (some true))
set_option maxRecDepth 100000 in
set_option maxHeartbeats 4000000 in
theorem xc_X9_has {l : Launch} {D : va_G} {A : Nat → ClassId} {B : Nat} {Z : State → Heap → Prop} {vF : Value} (uk : uK B Z vF) {k0 : Nat} {x1 : Int32} {s : uS} {r : Bool} (hk0 : uSo k0 9) (h : fn_X9_has k0 x1 s = some r) : CU l D A B Z 0 mX9_has s [.ref (B + k0), .int x1] (s, some (.int (bI r))) := by
  unfold fn_X9_has at h
  refine cu_of rfl uk.1.1 (Nat.le_of_ble_eq_true rfl) ?_
  show GU _ _ _ _ _ _ _ _ _ 0 [(0, .ref (B + k0)), (1, .int x1)] []
  refine uu_iload_n dX9_has_0 rfl (List.mem_of_getElem? (i := 1) rfl) ?_
  refine uu_if_lt (tgt := 16) dX9_has_1 (by decide) (fun c1 => ?_) (fun c1 => ?_)
  · replace h := uu_pos c1 h
    refine uu_iconst (v := 0) dX9_has_16 (by decide) ?_
    have hr := Option.some.inj h
    subst hr
    exact uu_zret (x := bI false) rfl (bI_z _) dX9_has_17
  · replace h := uu_neg c1 h
    refine uu_iload_n dX9_has_4 rfl (List.mem_of_getElem? (i := 1) rfl) ?_
    refine uu_aload_n dX9_has_5 rfl (List.mem_of_getElem? (i := 0) rfl) ?_
    refine uu_geti (ci := 9) (N := 6) fX9_20 (by decide) hk0.is (by decide) (by decide) dX9_has_6 ?_
    refine uu_icmp_ge (tgt := 16) dX9_has_9 (by decide) (fun c2 => ?_) (fun c2 => ?_)
    · replace h := uu_pos c2 h
      refine uu_iconst (v := 0) dX9_has_16 (by decide) ?_
      have hr := Option.some.inj h
      subst hr
      exact uu_zret (x := bI false) rfl (bI_z _) dX9_has_17
    · replace h := uu_neg c2 h
      refine uu_iconst (v := 1) dX9_has_12 (by decide) ?_
      refine uu_goto (tgt := 17) dX9_has_13 (by decide) ?_
      have hr := Option.some.inj h
      subst hr
      exact uu_zret (x := bI true) rfl (bI_z _) dX9_has_17
abbrev mX9_upper : hM := (yX9_upper, cX9_upper, 1, (some (.int)))
theorem dX9_upper_0 : decode cX9_upper 0 = .ok (.iload_n 0, 1) := by decide +kernel
theorem dX9_upper_1 : decode cX9_upper 1 = .ok (.bipush 97, 2) := by decide +kernel
theorem dX9_upper_3 : decode cX9_upper 3 = .ok (.if_icmp .lt 16, 3) := by decide +kernel
theorem dX9_upper_19 : decode cX9_upper 19 = .ok (.iload_n 0, 1) := by decide +kernel
theorem dX9_upper_20 : decode cX9_upper 20 = .ok (.ireturn, 1) := by decide +kernel
theorem dX9_upper_6 : decode cX9_upper 6 = .ok (.iload_n 0, 1) := by decide +kernel
theorem dX9_upper_7 : decode cX9_upper 7 = .ok (.bipush 122, 2) := by decide +kernel
theorem dX9_upper_9 : decode cX9_upper 9 = .ok (.if_icmp .gt 10, 3) := by decide +kernel
theorem dX9_upper_12 : decode cX9_upper 12 = .ok (.iload_n 0, 1) := by decide +kernel
theorem dX9_upper_13 : decode cX9_upper 13 = .ok (.bipush 32, 2) := by decide +kernel
theorem dX9_upper_15 : decode cX9_upper 15 = .ok (.isub, 1) := by decide +kernel
theorem dX9_upper_16 : decode cX9_upper 16 = .ok (.goto 4, 3) := by decide +kernel
def fn_X9_upper (x0 : Int32) (s : uS) : Option Int32 := if x0 < 97 then (some x0) else (if (122 : Int32) < x0 then (some x0) else (some (x0 - 32)))
set_option maxRecDepth 100000 in
set_option maxHeartbeats 4000000 in
theorem xc_X9_upper {l : Launch} {D : va_G} {A : Nat → ClassId} {B : Nat} {Z : State → Heap → Prop} {vF : Value} (uk : uK B Z vF) {x0 : Int32} {s : uS} {r : Int32}  (h : fn_X9_upper x0 s = some r) : CU l D A B Z 0 mX9_upper s [.int x0] (s, some (.int r)) := by
  unfold fn_X9_upper at h
  refine cu_of rfl uk.1.1 (Nat.le_of_ble_eq_true rfl) ?_
  show GU _ _ _ _ _ _ _ _ _ 0 [(0, .int x0)] []
  refine uu_iload_n dX9_upper_0 rfl (List.mem_of_getElem? (i := 0) rfl) ?_
  refine uu_bipush (v := 97) dX9_upper_1 (by decide) ?_
  refine uu_icmp_lt (tgt := 19) dX9_upper_3 (by decide) (fun c1 => ?_) (fun c1 => ?_)
  · replace h := uu_pos c1 h
    refine uu_iload_n dX9_upper_19 rfl (List.mem_of_getElem? (i := 0) rfl) ?_
    have hr := Option.some.inj h
    subst hr
    exact uu_iret rfl dX9_upper_20
  · replace h := uu_neg c1 h
    refine uu_iload_n dX9_upper_6 rfl (List.mem_of_getElem? (i := 0) rfl) ?_
    refine uu_bipush (v := 122) dX9_upper_7 (by decide) ?_
    refine uu_icmp_gt (tgt := 19) dX9_upper_9 (by decide) (fun c2 => ?_) (fun c2 => ?_)
    · replace h := uu_pos c2 h
      refine uu_iload_n dX9_upper_19 rfl (List.mem_of_getElem? (i := 0) rfl) ?_
      have hr := Option.some.inj h
      subst hr
      exact uu_iret rfl dX9_upper_20
    · replace h := uu_neg c2 h
      refine uu_iload_n dX9_upper_12 rfl (List.mem_of_getElem? (i := 0) rfl) ?_
      refine uu_bipush (v := 32) dX9_upper_13 (by decide) ?_
      refine uu_isub dX9_upper_15 ?_
      refine uu_goto (tgt := 20) dX9_upper_16 (by decide) ?_
      have hr := Option.some.inj h
      subst hr
      exact uu_iret rfl dX9_upper_20
abbrev mX9_place : hM := (yX9_place, cX9_place, 8, (some (.int)))
theorem dX9_place_55 : decode cX9_place 55 = .ok (.iinc 4 1, 3) := by decide +kernel
theorem dX9_place_58 : decode cX9_place 58 = .ok (.iload_n 2, 1) := by decide +kernel
theorem dX9_place_59 : decode cX9_place 59 = .ok (.istore 5, 2) := by decide +kernel
theorem dX9_place_61 : decode cX9_place 61 = .ok (.iconst 1, 1) := by decide +kernel
theorem dX9_place_62 : decode cX9_place 62 = .ok (.istore 6, 2) := by decide +kernel
theorem dX9_place_64 : decode cX9_place 64 = .ok (.goto 43, 3) := by decide +kernel
theorem dX9_place_107 : decode cX9_place 107 = .ok (.iinc 7 1, 3) := by decide +kernel
theorem dX9_place_110 : decode cX9_place 110 = .ok (.goto (-98), 3) := by decide +kernel
theorem dX9_place_41 : decode cX9_place 41 = .ok (.iload 6, 2) := by decide +kernel
theorem dX9_place_43 : decode cX9_place 43 = .ok (.ifCond .eq 12, 3) := by decide +kernel
theorem dX9_place_46 : decode cX9_place 46 = .ok (.iload 5, 2) := by decide +kernel
theorem dX9_place_48 : decode cX9_place 48 = .ok (.iload_n 3, 1) := by decide +kernel
theorem dX9_place_49 : decode cX9_place 49 = .ok (.if_icmp .ne 6, 3) := by decide +kernel
theorem dX9_place_52 : decode cX9_place 52 = .ok (.iload 4, 2) := by decide +kernel
theorem dX9_place_54 : decode cX9_place 54 = .ok (.ireturn, 1) := by decide +kernel
theorem dX9_place_12 : decode cX9_place 12 = .ok (.iload 7, 2) := by decide +kernel
theorem dX9_place_14 : decode cX9_place 14 = .ok (.aload_n 0, 1) := by decide +kernel
theorem dX9_place_15 : decode cX9_place 15 = .ok (.invokevirtual 30, 3) := by decide +kernel
theorem dX9_place_18 : decode cX9_place 18 = .ok (.if_icmp .gt 95, 3) := by decide +kernel
theorem dX9_place_113 : decode cX9_place 113 = .ok (.iconst (-1), 1) := by decide +kernel
theorem dX9_place_114 : decode cX9_place 114 = .ok (.ireturn, 1) := by decide +kernel
theorem dX9_place_21 : decode cX9_place 21 = .ok (.iload 7, 2) := by decide +kernel
theorem dX9_place_23 : decode cX9_place 23 = .ok (.aload_n 0, 1) := by decide +kernel
theorem dX9_place_24 : decode cX9_place 24 = .ok (.invokevirtual 30, 3) := by decide +kernel
theorem dX9_place_27 : decode cX9_place 27 = .ok (.if_icmp .eq 14, 3) := by decide +kernel
theorem dX9_place_30 : decode cX9_place 30 = .ok (.aload_n 0, 1) := by decide +kernel
theorem dX9_place_31 : decode cX9_place 31 = .ok (.iload 7, 2) := by decide +kernel
theorem dX9_place_33 : decode cX9_place 33 = .ok (.invokevirtual 36, 3) := by decide +kernel
theorem dX9_place_36 : decode cX9_place 36 = .ok (.bipush 32, 2) := by decide +kernel
theorem dX9_place_38 : decode cX9_place 38 = .ok (.if_icmp .ne 29, 3) := by decide +kernel
theorem dX9_place_67 : decode cX9_place 67 = .ok (.iload 6, 2) := by decide +kernel
theorem dX9_place_69 : decode cX9_place 69 = .ok (.ifCond .eq 32, 3) := by decide +kernel
theorem dX9_place_101 : decode cX9_place 101 = .ok (.iconst 0, 1) := by decide +kernel
theorem dX9_place_102 : decode cX9_place 102 = .ok (.istore 6, 2) := by decide +kernel
theorem dX9_place_104 : decode cX9_place 104 = .ok (.iinc 5 1, 3) := by decide +kernel
theorem dX9_place_72 : decode cX9_place 72 = .ok (.iload 5, 2) := by decide +kernel
theorem dX9_place_74 : decode cX9_place 74 = .ok (.iload_n 3, 1) := by decide +kernel
theorem dX9_place_75 : decode cX9_place 75 = .ok (.if_icmp .ge 26, 3) := by decide +kernel
theorem dX9_place_78 : decode cX9_place 78 = .ok (.aload_n 1, 1) := by decide +kernel
theorem dX9_place_79 : decode cX9_place 79 = .ok (.iload 5, 2) := by decide +kernel
theorem dX9_place_81 : decode cX9_place 81 = .ok (.baload, 1) := by decide +kernel
theorem kX9_upper : h_ml mX9_upper 1 := ⟨h_t3 207 rfl rfl, h_t1 4 rfl rfl, ⟨by decide, by decide, by decide +kernel⟩, by decide⟩
theorem lX9_89 : Cond.methodLink RX9 89 mX9_upper.1 ∈ lw_g := h_t3 205 rfl rfl
theorem sX9_upper : Cond.static mX9_upper.1 ∈ lw_g := h_t3 206 rfl rfl
theorem dX9_place_82 : decode cX9_place 82 = .ok (.invokestatic 89, 3) := by decide +kernel
theorem dX9_place_85 : decode cX9_place 85 = .ok (.aload_n 0, 1) := by decide +kernel
theorem dX9_place_86 : decode cX9_place 86 = .ok (.iload 7, 2) := by decide +kernel
theorem dX9_place_88 : decode cX9_place 88 = .ok (.invokevirtual 36, 3) := by decide +kernel
theorem dX9_place_91 : decode cX9_place 91 = .ok (.invokestatic 89, 3) := by decide +kernel
theorem dX9_place_94 : decode cX9_place 94 = .ok (.if_icmp .ne 7, 3) := by decide +kernel
theorem dX9_place_97 : decode cX9_place 97 = .ok (.iconst 1, 1) := by decide +kernel
theorem dX9_place_98 : decode cX9_place 98 = .ok (.goto 4, 3) := by decide +kernel
theorem dX9_place_0 : decode cX9_place 0 = .ok (.iconst 0, 1) := by decide +kernel
theorem dX9_place_1 : decode cX9_place 1 = .ok (.istore 4, 2) := by decide +kernel
theorem dX9_place_3 : decode cX9_place 3 = .ok (.iload_n 2, 1) := by decide +kernel
theorem dX9_place_4 : decode cX9_place 4 = .ok (.istore 5, 2) := by decide +kernel
theorem dX9_place_6 : decode cX9_place 6 = .ok (.iconst 1, 1) := by decide +kernel
theorem dX9_place_7 : decode cX9_place 7 = .ok (.istore 6, 2) := by decide +kernel
theorem dX9_place_9 : decode cX9_place 9 = .ok (.iconst 0, 1) := by decide +kernel
theorem dX9_place_10 : decode cX9_place 10 = .ok (.istore 7, 2) := by decide +kernel
def fb_X9_place_55 (K12 : List Nat → Nat → Int32 → Int32 → Int32 → Int32 → Bool → Int32 → uS → Option Int32) (w0 : List Nat) (k1 : Nat) (x2 : Int32) (x3 : Int32) (x4 : Int32) (x7 : Int32) (s : uS) : Option Int32 := K12 w0 k1 x2 x3 (x4 + 1) x2 true (x7 + 1) s
set_option maxRecDepth 100000 in
set_option maxHeartbeats 4000000 in
theorem xb_X9_place_55 {l : Launch} {D : va_G} {A : Nat → ClassId} {B : Nat} {Z : State → Heap → Prop} {vF : Value} (uk : uK B Z vF) {K12 : List Nat → Nat → Int32 → Int32 → Int32 → Int32 → Bool → Int32 → uS → Option Int32} (hK12 : ∀ (w0 : List Nat) (k1 : Nat) (x2 : Int32) (x3 : Int32) (x4 : Int32) (x5 : Int32) (b6 : Bool) (x7 : Int32) {qw0 pw0 : Nat} (hw0 : uStr B Z qw0 pw0 w0) (s : uS) (r : Int32), K12 w0 k1 x2 x3 x4 x5 b6 x7 s = some r → GU l D A B Z mX9_place 4 (s, some (.int r)) s 12 [(0, .ref qw0), (1, .ref (B + k1)), (2, .int x2), (3, .int x3), (4, .int x4), (5, .int x5), (6, .int (bI b6)), (7, .int x7)] []) {w0 : List Nat} {k1 : Nat} {x2 : Int32} {x3 : Int32} {x4 : Int32} {x7 : Int32} {s : uS} {r : Int32} {qw0 pw0 : Nat} (hw0 : uStr B Z qw0 pw0 w0) (h : fb_X9_place_55 K12 w0 k1 x2 x3 x4 x7 s = some r) : GU l D A B Z mX9_place 4 (s, some (.int r)) s 55 [(0, .ref qw0), (1, .ref (B + k1)), (2, .int x2), (3, .int x3), (4, .int x4), (7, .int x7)] [] := by
  unfold fb_X9_place_55 at h
  refine uu_iinc (v := x4 + 1) dX9_place_55 (k := 4) rfl rfl (by decide) rfl ?_
  refine uu_iload_n dX9_place_58 rfl (List.mem_of_getElem? (i := 3) rfl) ?_
  refine uu_istore dX9_place_59 (by decide) rfl ?_
  refine uu_iconst (v := 1) dX9_place_61 (by decide) ?_
  refine uu_istore dX9_place_62 (by decide) rfl ?_
  refine uu_goto (tgt := 107) dX9_place_64 (by decide) ?_
  refine uu_iinc (v := x7 + 1) dX9_place_107 (k := 7) rfl rfl (by decide) rfl ?_
  refine uu_goto (tgt := 12) dX9_place_110 (by decide) ?_
  refine uu_lv [4, 5, 6, 7, 3, 2, 1, 0] (lv' := [(0, .ref qw0), (1, .ref (B + k1)), (2, .int x2), (3, .int x3), (4, .int (x4 + 1)), (5, .int x2), (6, .int 1), (7, .int (x7 + 1))]) rfl ?_
  exact hK12 w0 k1 x2 x3 (x4 + 1) x2 true (x7 + 1) hw0 _ _ h
def fb_X9_place_41 (K12 : List Nat → Nat → Int32 → Int32 → Int32 → Int32 → Bool → Int32 → uS → Option Int32) (w0 : List Nat) (k1 : Nat) (x2 : Int32) (x3 : Int32) (x4 : Int32) (x5 : Int32) (b6 : Bool) (x7 : Int32) (s : uS) : Option Int32 := if b6 = true then (if x5 = x3 then (some x4) else (fb_X9_place_55 K12 w0 k1 x2 x3 x4 x7 s)) else (fb_X9_place_55 K12 w0 k1 x2 x3 x4 x7 s)
set_option maxRecDepth 100000 in
set_option maxHeartbeats 4000000 in
theorem xb_X9_place_41 {l : Launch} {D : va_G} {A : Nat → ClassId} {B : Nat} {Z : State → Heap → Prop} {vF : Value} (uk : uK B Z vF) {K12 : List Nat → Nat → Int32 → Int32 → Int32 → Int32 → Bool → Int32 → uS → Option Int32} (hK12 : ∀ (w0 : List Nat) (k1 : Nat) (x2 : Int32) (x3 : Int32) (x4 : Int32) (x5 : Int32) (b6 : Bool) (x7 : Int32) {qw0 pw0 : Nat} (hw0 : uStr B Z qw0 pw0 w0) (s : uS) (r : Int32), K12 w0 k1 x2 x3 x4 x5 b6 x7 s = some r → GU l D A B Z mX9_place 4 (s, some (.int r)) s 12 [(0, .ref qw0), (1, .ref (B + k1)), (2, .int x2), (3, .int x3), (4, .int x4), (5, .int x5), (6, .int (bI b6)), (7, .int x7)] []) {w0 : List Nat} {k1 : Nat} {x2 : Int32} {x3 : Int32} {x4 : Int32} {x5 : Int32} {b6 : Bool} {x7 : Int32} {s : uS} {r : Int32} {qw0 pw0 : Nat} (hw0 : uStr B Z qw0 pw0 w0) (h : fb_X9_place_41 K12 w0 k1 x2 x3 x4 x5 b6 x7 s = some r) : GU l D A B Z mX9_place 4 (s, some (.int r)) s 41 [(0, .ref qw0), (1, .ref (B + k1)), (2, .int x2), (3, .int x3), (4, .int x4), (5, .int x5), (6, .int (bI b6)), (7, .int x7)] [] := by
  unfold fb_X9_place_41 at h
  refine uu_iload dX9_place_41 (List.mem_of_getElem? (i := 6) rfl) ?_
  refine uu_ifb_eq (tgt := 55) dX9_place_43 (by decide) (fun c1 => ?_) (fun c1 => ?_)
  · replace h := uu_neg c1 h
    refine uu_lv [0, 1, 2, 3, 4, 7] (lv' := [(0, .ref qw0), (1, .ref (B + k1)), (2, .int x2), (3, .int x3), (4, .int x4), (7, .int x7)]) rfl ?_
    exact xb_X9_place_55 uk hK12 hw0 h
  · replace h := uu_pos c1 h
    refine uu_iload dX9_place_46 (List.mem_of_getElem? (i := 5) rfl) ?_
    refine uu_iload_n dX9_place_48 rfl (List.mem_of_getElem? (i := 3) rfl) ?_
    refine uu_icmp_ne (tgt := 55) dX9_place_49 (by decide) (fun c2 => ?_) (fun c2 => ?_)
    · replace h := uu_neg c2 h
      refine uu_lv [0, 1, 2, 3, 4, 7] (lv' := [(0, .ref qw0), (1, .ref (B + k1)), (2, .int x2), (3, .int x3), (4, .int x4), (7, .int x7)]) rfl ?_
      exact xb_X9_place_55 uk hK12 hw0 h
    · replace h := uu_pos c2 h
      refine uu_iload dX9_place_52 (List.mem_of_getElem? (i := 4) rfl) ?_
      have hr := Option.some.inj h
      subst hr
      exact uu_iret rfl dX9_place_54
def fb_X9_place_12 (K12 : List Nat → Nat → Int32 → Int32 → Int32 → Int32 → Bool → Int32 → uS → Option Int32) (w0 : List Nat) (k1 : Nat) (x2 : Int32) (x3 : Int32) (x4 : Int32) (x5 : Int32) (b6 : Bool) (x7 : Int32) (s : uS) : Option Int32 := if (nI w0.length) < x7 then (some (-1 : Int32)) else (if x7 = (nI w0.length) then (fb_X9_place_41 K12 w0 k1 x2 x3 x4 x5 b6 x7 s) else ((stget w0 x7).bind fun v3 => if v3 = 32 then (fb_X9_place_41 K12 w0 k1 x2 x3 x4 x5 b6 x7 s) else (if b6 = true then (if x3 ≤ x5 then (K12 w0 k1 x2 x3 x4 (x5 + 1) false (x7 + 1) s) else ((iget 21 s k1 x5).bind fun v8 => (fn_X9_upper v8 s).bind fun v10 => (stget w0 x7).bind fun v12 => (fn_X9_upper v12 s).bind fun v14 => if v10 = v14 then (K12 w0 k1 x2 x3 x4 (x5 + 1) true (x7 + 1) s) else (K12 w0 k1 x2 x3 x4 (x5 + 1) false (x7 + 1) s))) else (K12 w0 k1 x2 x3 x4 (x5 + 1) false (x7 + 1) s))))
set_option maxRecDepth 100000 in
set_option maxHeartbeats 4000000 in
theorem xb_X9_place_12 {l : Launch} {D : va_G} {A : Nat → ClassId} {B : Nat} {Z : State → Heap → Prop} {vF : Value} (uk : uK B Z vF) {K12 : List Nat → Nat → Int32 → Int32 → Int32 → Int32 → Bool → Int32 → uS → Option Int32} (hK12 : ∀ (w0 : List Nat) (k1 : Nat) (x2 : Int32) (x3 : Int32) (x4 : Int32) (x5 : Int32) (b6 : Bool) (x7 : Int32) {qw0 pw0 : Nat} (hw0 : uStr B Z qw0 pw0 w0) (s : uS) (r : Int32), K12 w0 k1 x2 x3 x4 x5 b6 x7 s = some r → GU l D A B Z mX9_place 4 (s, some (.int r)) s 12 [(0, .ref qw0), (1, .ref (B + k1)), (2, .int x2), (3, .int x3), (4, .int x4), (5, .int x5), (6, .int (bI b6)), (7, .int x7)] []) {w0 : List Nat} {k1 : Nat} {x2 : Int32} {x3 : Int32} {x4 : Int32} {x5 : Int32} {b6 : Bool} {x7 : Int32} {s : uS} {r : Int32} {qw0 pw0 : Nat} (hw0 : uStr B Z qw0 pw0 w0) (h : fb_X9_place_12 K12 w0 k1 x2 x3 x4 x5 b6 x7 s = some r) : GU l D A B Z mX9_place 4 (s, some (.int r)) s 12 [(0, .ref qw0), (1, .ref (B + k1)), (2, .int x2), (3, .int x3), (4, .int x4), (5, .int x5), (6, .int (bI b6)), (7, .int x7)] [] := by
  unfold fb_X9_place_12 at h
  refine uu_iload dX9_place_12 (List.mem_of_getElem? (i := 7) rfl) ?_
  refine uu_aload_n dX9_place_14 rfl (List.mem_of_getElem? (i := 0) rfl) ?_
  refine uu_slen uk hw0 lX9_30 (by decide) (Nat.le_of_ble_eq_true rfl) dX9_place_15 ?_
  refine uu_icmp_gt (tgt := 113) dX9_place_18 (by decide) (fun c1 => ?_) (fun c1 => ?_)
  · replace h := uu_pos c1 h
    refine uu_iconst (v := -1) dX9_place_113 (by decide) ?_
    have hr := Option.some.inj h
    subst hr
    exact uu_iret rfl dX9_place_114
  · replace h := uu_neg c1 h
    refine uu_iload dX9_place_21 (List.mem_of_getElem? (i := 7) rfl) ?_
    refine uu_aload_n dX9_place_23 rfl (List.mem_of_getElem? (i := 0) rfl) ?_
    refine uu_slen uk hw0 lX9_30 (by decide) (Nat.le_of_ble_eq_true rfl) dX9_place_24 ?_
    refine uu_icmp_eq (tgt := 41) dX9_place_27 (by decide) (fun c2 => ?_) (fun c2 => ?_)
    · replace h := uu_pos c2 h
      exact xb_X9_place_41 uk hK12 hw0 h
    · replace h := uu_neg c2 h
      refine uu_aload_n dX9_place_30 rfl (List.mem_of_getElem? (i := 0) rfl) ?_
      refine uu_iload dX9_place_31 (List.mem_of_getElem? (i := 7) rfl) ?_
      obtain ⟨v3, e4, h⟩ := uu_ob h
      refine uu_sch uk hw0 e4 lX9_36 (by decide) (Nat.le_of_ble_eq_true rfl) dX9_place_33 ?_
      refine uu_bipush (v := 32) dX9_place_36 (by decide) ?_
      refine uu_icmp_ne (tgt := 67) dX9_place_38 (by decide) (fun c5 => ?_) (fun c5 => ?_)
      · replace h := uu_neg c5 h
        refine uu_iload dX9_place_67 (List.mem_of_getElem? (i := 6) rfl) ?_
        refine uu_ifb_eq (tgt := 101) dX9_place_69 (by decide) (fun c6 => ?_) (fun c6 => ?_)
        · replace h := uu_neg c6 h
          refine uu_iconst (v := 0) dX9_place_101 (by decide) ?_
          refine uu_istore dX9_place_102 (by decide) rfl ?_
          refine uu_iinc (v := x5 + 1) dX9_place_104 (k := 6) rfl rfl (by decide) rfl ?_
          refine uu_iinc (v := x7 + 1) dX9_place_107 (k := 7) rfl rfl (by decide) rfl ?_
          refine uu_goto (tgt := 12) dX9_place_110 (by decide) ?_
          refine uu_lv [3, 4, 5, 6, 7, 1, 2, 0] (lv' := [(0, .ref qw0), (1, .ref (B + k1)), (2, .int x2), (3, .int x3), (4, .int x4), (5, .int (x5 + 1)), (6, .int 0), (7, .int (x7 + 1))]) rfl ?_
          exact hK12 w0 k1 x2 x3 x4 (x5 + 1) false (x7 + 1) hw0 _ _ h
        · replace h := uu_pos c6 h
          refine uu_iload dX9_place_72 (List.mem_of_getElem? (i := 5) rfl) ?_
          refine uu_iload_n dX9_place_74 rfl (List.mem_of_getElem? (i := 3) rfl) ?_
          refine uu_icmp_ge (tgt := 101) dX9_place_75 (by decide) (fun c7 => ?_) (fun c7 => ?_)
          · replace h := uu_pos c7 h
            refine uu_iconst (v := 0) dX9_place_101 (by decide) ?_
            refine uu_istore dX9_place_102 (by decide) rfl ?_
            refine uu_iinc (v := x5 + 1) dX9_place_104 (k := 6) rfl rfl (by decide) rfl ?_
            refine uu_iinc (v := x7 + 1) dX9_place_107 (k := 7) rfl rfl (by decide) rfl ?_
            refine uu_goto (tgt := 12) dX9_place_110 (by decide) ?_
            refine uu_lv [3, 4, 5, 6, 7, 1, 2, 0] (lv' := [(0, .ref qw0), (1, .ref (B + k1)), (2, .int x2), (3, .int x3), (4, .int x4), (5, .int (x5 + 1)), (6, .int 0), (7, .int (x7 + 1))]) rfl ?_
            exact hK12 w0 k1 x2 x3 x4 (x5 + 1) false (x7 + 1) hw0 _ _ h
          · replace h := uu_neg c7 h
            refine uu_aload_n dX9_place_78 rfl (List.mem_of_getElem? (i := 1) rfl) ?_
            refine uu_iload dX9_place_79 (List.mem_of_getElem? (i := 5) rfl) ?_
            obtain ⟨v8, e9, h⟩ := uu_ob h
            refine uu_bald e9 dX9_place_81 ?_
            obtain ⟨v10, e11, h⟩ := uu_ob h
            refine uu_cs (d1 := 0) (As := [.int v8]) (st := []) (st' := [.int v10]) (xc_X9_upper uk  e11) kX9_upper lX9_89 sX9_upper (by decide) (Nat.le_of_ble_eq_true rfl) dX9_place_82 rfl ?_
            refine uu_aload_n dX9_place_85 rfl (List.mem_of_getElem? (i := 0) rfl) ?_
            refine uu_iload dX9_place_86 (List.mem_of_getElem? (i := 7) rfl) ?_
            obtain ⟨v12, e13, h⟩ := uu_ob h
            refine uu_sch uk hw0 e13 lX9_36 (by decide) (Nat.le_of_ble_eq_true rfl) dX9_place_88 ?_
            obtain ⟨v14, e15, h⟩ := uu_ob h
            refine uu_cs (d1 := 0) (As := [.int v12]) (st := [.int v10]) (st' := [.int v14, .int v10]) (xc_X9_upper uk  e15) kX9_upper lX9_89 sX9_upper (by decide) (Nat.le_of_ble_eq_true rfl) dX9_place_91 rfl ?_
            refine uu_icmp_ne (tgt := 101) dX9_place_94 (by decide) (fun c16 => ?_) (fun c16 => ?_)
            · replace h := uu_neg c16 h
              refine uu_iconst (v := 0) dX9_place_101 (by decide) ?_
              refine uu_istore dX9_place_102 (by decide) rfl ?_
              refine uu_iinc (v := x5 + 1) dX9_place_104 (k := 6) rfl rfl (by decide) rfl ?_
              refine uu_iinc (v := x7 + 1) dX9_place_107 (k := 7) rfl rfl (by decide) rfl ?_
              refine uu_goto (tgt := 12) dX9_place_110 (by decide) ?_
              refine uu_lv [3, 4, 5, 6, 7, 1, 2, 0] (lv' := [(0, .ref qw0), (1, .ref (B + k1)), (2, .int x2), (3, .int x3), (4, .int x4), (5, .int (x5 + 1)), (6, .int 0), (7, .int (x7 + 1))]) rfl ?_
              exact hK12 w0 k1 x2 x3 x4 (x5 + 1) false (x7 + 1) hw0 _ _ h
            · replace h := uu_pos c16 h
              refine uu_iconst (v := 1) dX9_place_97 (by decide) ?_
              refine uu_goto (tgt := 102) dX9_place_98 (by decide) ?_
              refine uu_istore dX9_place_102 (by decide) rfl ?_
              refine uu_iinc (v := x5 + 1) dX9_place_104 (k := 6) rfl rfl (by decide) rfl ?_
              refine uu_iinc (v := x7 + 1) dX9_place_107 (k := 7) rfl rfl (by decide) rfl ?_
              refine uu_goto (tgt := 12) dX9_place_110 (by decide) ?_
              refine uu_lv [3, 4, 5, 6, 7, 1, 2, 0] (lv' := [(0, .ref qw0), (1, .ref (B + k1)), (2, .int x2), (3, .int x3), (4, .int x4), (5, .int (x5 + 1)), (6, .int 1), (7, .int (x7 + 1))]) rfl ?_
              exact hK12 w0 k1 x2 x3 x4 (x5 + 1) true (x7 + 1) hw0 _ _ h
      · replace h := uu_pos c5 h
        exact xb_X9_place_41 uk hK12 hw0 h
def fn_X9_place_12  : Nat → List Nat → Nat → Int32 → Int32 → Int32 → Int32 → Bool → Int32 → uS → Option Int32
  | 0 => fun _ _ _ _ _ _ _ _ _ => none
  | n + 1 => fb_X9_place_12 (fn_X9_place_12  n)
set_option maxRecDepth 100000 in
set_option maxHeartbeats 4000000 in
theorem xn_X9_place_12 {l : Launch} {D : va_G} {A : Nat → ClassId} {B : Nat} {Z : State → Heap → Prop} {vF : Value} (uk : uK B Z vF)   : ∀ (n : Nat) (w0 : List Nat) (k1 : Nat) (x2 : Int32) (x3 : Int32) (x4 : Int32) (x5 : Int32) (b6 : Bool) (x7 : Int32) {qw0 pw0 : Nat} (hw0 : uStr B Z qw0 pw0 w0) (s : uS) (r : Int32), fn_X9_place_12  n w0 k1 x2 x3 x4 x5 b6 x7 s = some r → GU l D A B Z mX9_place 4 (s, some (.int r)) s 12 [(0, .ref qw0), (1, .ref (B + k1)), (2, .int x2), (3, .int x3), (4, .int x4), (5, .int x5), (6, .int (bI b6)), (7, .int x7)] [] := by
  intro n
  induction n with
  | zero => intro w0 k1 x2 x3 x4 x5 b6 x7 qw0 pw0 hw0 s r h
            cases h
  | succ n ih => intro w0 k1 x2 x3 x4 x5 b6 x7 qw0 pw0 hw0 s r h
                 exact xb_X9_place_12 uk ih hw0 h
def fn_X9_place (w0 : List Nat) (k1 : Nat) (x2 : Int32) (x3 : Int32) (s : uS) : Option Int32 := fn_X9_place_12 uFu w0 k1 x2 x3 0 x2 true 0 s
set_option maxRecDepth 100000 in
set_option maxHeartbeats 4000000 in
theorem xc_X9_place {l : Launch} {D : va_G} {A : Nat → ClassId} {B : Nat} {Z : State → Heap → Prop} {vF : Value} (uk : uK B Z vF) {w0 : List Nat} {k1 : Nat} {x2 : Int32} {x3 : Int32} {s : uS} {r : Int32} {qw0 pw0 : Nat} (hw0 : uStr B Z qw0 pw0 w0) (h : fn_X9_place w0 k1 x2 x3 s = some r) : CU l D A B Z 4 mX9_place s [.ref qw0, .ref (B + k1), .int x2, .int x3] (s, some (.int r)) := by
  unfold fn_X9_place at h
  refine cu_of rfl uk.1.1 (Nat.le_of_ble_eq_true rfl) ?_
  show GU _ _ _ _ _ _ _ _ _ 0 [(0, .ref qw0), (1, .ref (B + k1)), (2, .int x2), (3, .int x3)] []
  refine uu_iconst (v := 0) dX9_place_0 (by decide) ?_
  refine uu_istore dX9_place_1 (by decide) rfl ?_
  refine uu_iload_n dX9_place_3 rfl (List.mem_of_getElem? (i := 3) rfl) ?_
  refine uu_istore dX9_place_4 (by decide) rfl ?_
  refine uu_iconst (v := 1) dX9_place_6 (by decide) ?_
  refine uu_istore dX9_place_7 (by decide) rfl ?_
  refine uu_iconst (v := 0) dX9_place_9 (by decide) ?_
  refine uu_istore dX9_place_10 (by decide) rfl ?_
  refine uu_lv [4, 5, 6, 7, 3, 2, 1, 0] (lv' := [(0, .ref qw0), (1, .ref (B + k1)), (2, .int x2), (3, .int x3), (4, .int 0), (5, .int x2), (6, .int 1), (7, .int 0)]) rfl ?_
  exact xn_X9_place_12 uk  _ _ _ _ _ _ _ _ _ hw0 _ _ h
abbrev mX9_placeIn : hM := (yX9_placeIn, cX9_placeIn, 3, (some (.int)))
theorem dX9_placeIn_0 : decode cX9_placeIn 0 = .ok (.aload_n 0, 1) := by decide +kernel
theorem dX9_placeIn_1 : decode cX9_placeIn 1 = .ok (.iload_n 2, 1) := by decide +kernel
theorem kX9_has : h_ml mX9_has 1 := ⟨h_t4 155 rfl rfl, h_t1 4 rfl rfl, ⟨by decide, by decide, by decide +kernel⟩, by decide⟩
theorem lX9_68 : Cond.methodLink RX9 68 mX9_has.1 ∈ lw_g := h_t4 152 rfl rfl
theorem sX9_has : Cond.instanceMethod mX9_has.1 ∈ lw_g ∧ Cond.selects mX9_has.1.cls mX9_has.1 mX9_has.1 ∈ lw_g := ⟨h_t4 153 rfl rfl, h_t4 154 rfl rfl⟩
theorem dX9_placeIn_2 : decode cX9_placeIn 2 = .ok (.invokevirtual 68, 3) := by decide +kernel
theorem dX9_placeIn_5 : decode cX9_placeIn 5 = .ok (.ifCond .eq 26, 3) := by decide +kernel
theorem dX9_placeIn_31 : decode cX9_placeIn 31 = .ok (.iconst (-1), 1) := by decide +kernel
theorem dX9_placeIn_32 : decode cX9_placeIn 32 = .ok (.ireturn, 1) := by decide +kernel
theorem dX9_placeIn_8 : decode cX9_placeIn 8 = .ok (.aload_n 1, 1) := by decide +kernel
theorem dX9_placeIn_9 : decode cX9_placeIn 9 = .ok (.aload_n 0, 1) := by decide +kernel
theorem dX9_placeIn_10 : decode cX9_placeIn 10 = .ok (.getfield 9, 3) := by decide +kernel
theorem dX9_placeIn_13 : decode cX9_placeIn 13 = .ok (.aload_n 0, 1) := by decide +kernel
theorem dX9_placeIn_14 : decode cX9_placeIn 14 = .ok (.getfield 13, 3) := by decide +kernel
theorem dX9_placeIn_17 : decode cX9_placeIn 17 = .ok (.iload_n 2, 1) := by decide +kernel
theorem dX9_placeIn_18 : decode cX9_placeIn 18 = .ok (.iaload, 1) := by decide +kernel
theorem dX9_placeIn_19 : decode cX9_placeIn 19 = .ok (.aload_n 0, 1) := by decide +kernel
theorem dX9_placeIn_20 : decode cX9_placeIn 20 = .ok (.getfield 17, 3) := by decide +kernel
theorem dX9_placeIn_23 : decode cX9_placeIn 23 = .ok (.iload_n 2, 1) := by decide +kernel
theorem dX9_placeIn_24 : decode cX9_placeIn 24 = .ok (.iaload, 1) := by decide +kernel
theorem kX9_place : h_ml mX9_place 4 := ⟨h_t3 204 rfl rfl, h_t1 4 rfl rfl, ⟨by decide, by decide, by decide +kernel⟩, by decide⟩
theorem lX9_77 : Cond.methodLink RX9 77 mX9_place.1 ∈ lw_g := h_t4 156 rfl rfl
theorem sX9_place : Cond.static mX9_place.1 ∈ lw_g := h_t3 203 rfl rfl
theorem dX9_placeIn_25 : decode cX9_placeIn 25 = .ok (.invokestatic 77, 3) := by decide +kernel
theorem dX9_placeIn_28 : decode cX9_placeIn 28 = .ok (.goto 4, 3) := by decide +kernel
def fn_X9_placeIn (k0 : Nat) (w1 : List Nat) (x2 : Int32) (s : uS) : Option Int32 := (fn_X9_has k0 x2 s).bind fun v1 => if v1 = true then ((iget 20 s (k0 + 2) x2).bind fun v4 => (iget 20 s (k0 + 3) x2).bind fun v6 => (fn_X9_place w1 (k0 + 1) v4 v6 s).bind fun v8 => some v8) else (some (-1 : Int32))
set_option maxRecDepth 100000 in
set_option maxHeartbeats 4000000 in
theorem xc_X9_placeIn {l : Launch} {D : va_G} {A : Nat → ClassId} {B : Nat} {Z : State → Heap → Prop} {vF : Value} (uk : uK B Z vF) {k0 : Nat} {w1 : List Nat} {x2 : Int32} {s : uS} {r : Int32} (hk0 : uSo k0 9) {qw1 pw1 : Nat} (hw1 : uStr B Z qw1 pw1 w1) (h : fn_X9_placeIn k0 w1 x2 s = some r) : CU l D A B Z 5 mX9_placeIn s [.ref (B + k0), .ref qw1, .int x2] (s, some (.int r)) := by
  unfold fn_X9_placeIn at h
  refine cu_of rfl uk.1.1 (Nat.le_of_ble_eq_true rfl) ?_
  show GU _ _ _ _ _ _ _ _ _ 0 [(0, .ref (B + k0)), (1, .ref qw1), (2, .int x2)] []
  refine uu_aload_n dX9_placeIn_0 rfl (List.mem_of_getElem? (i := 0) rfl) ?_
  refine uu_iload_n dX9_placeIn_1 rfl (List.mem_of_getElem? (i := 2) rfl) ?_
  obtain ⟨v1, e2, h⟩ := uu_ob h
  refine uu_cv (d1 := 0) (k := k0) (ci := 9) (T := TX9) (N := 6) (As := [.int x2]) (st := []) (st' := [.int (bI v1)]) (xc_X9_has uk hk0 e2) hk0.is (by decide) rfl kX9_has lX9_68 sX9_has (by decide) (Nat.le_of_ble_eq_true rfl) dX9_placeIn_2 rfl ?_
  refine uu_ifb_eq (tgt := 31) dX9_placeIn_5 (by decide) (fun c3 => ?_) (fun c3 => ?_)
  · replace h := uu_neg c3 h
    refine uu_iconst (v := -1) dX9_placeIn_31 (by decide) ?_
    have hr := Option.some.inj h
    subst hr
    exact uu_iret rfl dX9_placeIn_32
  · replace h := uu_pos c3 h
    refine uu_aload_n dX9_placeIn_8 rfl (List.mem_of_getElem? (i := 1) rfl) ?_
    refine uu_aload_n dX9_placeIn_9 rfl (List.mem_of_getElem? (i := 0) rfl) ?_
    refine uu_getc (ci := 9) (N := 6) fX9_9 (by decide) hk0.is (by decide) (c := 1) (by decide) (k2 := k0 + 1) rfl dX9_placeIn_10 ?_
    refine uu_aload_n dX9_placeIn_13 rfl (List.mem_of_getElem? (i := 0) rfl) ?_
    refine uu_getc (ci := 9) (N := 6) fX9_13 (by decide) hk0.is (by decide) (c := 2) (by decide) (k2 := k0 + 2) rfl dX9_placeIn_14 ?_
    refine uu_iload_n dX9_placeIn_17 rfl (List.mem_of_getElem? (i := 2) rfl) ?_
    obtain ⟨v4, e5, h⟩ := uu_ob h
    refine uu_iald e5 dX9_placeIn_18 ?_
    refine uu_aload_n dX9_placeIn_19 rfl (List.mem_of_getElem? (i := 0) rfl) ?_
    refine uu_getc (ci := 9) (N := 6) fX9_17 (by decide) hk0.is (by decide) (c := 3) (by decide) (k2 := k0 + 3) rfl dX9_placeIn_20 ?_
    refine uu_iload_n dX9_placeIn_23 rfl (List.mem_of_getElem? (i := 2) rfl) ?_
    obtain ⟨v6, e7, h⟩ := uu_ob h
    refine uu_iald e7 dX9_placeIn_24 ?_
    obtain ⟨v8, e9, h⟩ := uu_ob h
    refine uu_cs (d1 := 4) (As := [.ref qw1, .ref (B + (k0 + 1)), .int v4, .int v6]) (st := []) (st' := [.int v8]) (xc_X9_place uk hw1 e9) kX9_place lX9_77 sX9_place (by decide) (Nat.le_of_ble_eq_true rfl) dX9_placeIn_25 rfl ?_
    refine uu_goto (tgt := 32) dX9_placeIn_28 (by decide) ?_
    have hr := Option.some.inj h
    subst hr
    exact uu_iret rfl dX9_placeIn_32
abbrev mX0_userOf : hM := (yX0_userOf, cX0_userOf, 2, (some (.int)))
theorem dX0_userOf_0 : decode cX0_userOf 0 = .ok (.iconst 0, 1) := by decide +kernel
theorem dX0_userOf_1 : decode cX0_userOf 1 = .ok (.aload_n 0, 1) := by decide +kernel
theorem dX0_userOf_2 : decode cX0_userOf 2 = .ok (.getfield 18, 3) := by decide +kernel
theorem dX0_userOf_5 : decode cX0_userOf 5 = .ok (.ldc 65, 2) := by decide +kernel
theorem dX0_userOf_7 : decode cX0_userOf 7 = .ok (.iload_n 1, 1) := by decide +kernel
theorem kX9_placeIn : h_ml mX9_placeIn 2 := ⟨h_t4 151 rfl rfl, h_t1 4 rfl rfl, ⟨by decide, by decide, by decide +kernel⟩, by decide⟩
theorem lX0_67 : Cond.methodLink RX0 67 mX9_placeIn.1 ∈ lw_g := h_t4 148 rfl rfl
theorem sX9_placeIn : Cond.instanceMethod mX9_placeIn.1 ∈ lw_g ∧ Cond.selects mX9_placeIn.1.cls mX9_placeIn.1 mX9_placeIn.1 ∈ lw_g := ⟨h_t4 149 rfl rfl, h_t4 150 rfl rfl⟩
theorem dX0_userOf_8 : decode cX0_userOf 8 = .ok (.invokevirtual 67, 3) := by decide +kernel
theorem lX0_71 : Cond.methodLink RX0 71 Lib.Math.max.name ∈ lw_g := h_t4 157 rfl rfl
theorem dX0_userOf_11 : decode cX0_userOf 11 = .ok (.invokestatic 71, 3) := by decide +kernel
theorem dX0_userOf_14 : decode cX0_userOf 14 = .ok (.ireturn, 1) := by decide +kernel
def fn_X0_userOf (x1 : Int32) (s : uS) : Option Int32 := (fn_X9_placeIn 1047 kW_11 x1 s).bind fun v2 => some (if (0 : Int32) < v2 then v2 else (0 : Int32))
set_option maxRecDepth 100000 in
set_option maxHeartbeats 4000000 in
theorem xc_X0_userOf {l : Launch} {D : va_G} {A : Nat → ClassId} {B : Nat} {Z : State → Heap → Prop} {vF : Value} (uk : uK B Z vF) {x1 : Int32} {s : uS} {r : Int32}  (h : fn_X0_userOf x1 s = some r) : CU l D A B Z 6 mX0_userOf s [.ref (B + 1042), .int x1] (s, some (.int r)) := by
  unfold fn_X0_userOf at h
  refine cu_of rfl uk.1.1 (Nat.le_of_ble_eq_true rfl) ?_
  show GU _ _ _ _ _ _ _ _ _ 0 [(0, .ref (B + 1042)), (1, .int x1)] []
  refine uu_iconst (v := 0) dX0_userOf_0 (by decide) ?_
  refine uu_aload_n dX0_userOf_1 rfl (List.mem_of_getElem? (i := 0) rfl) ?_
  refine uu_geta (ci := 0) (N := 12) fX0_18 (by decide) so_1042.is (by decide) (c := 1047) (by decide) dX0_userOf_2 ?_
  obtain ⟨cq1, cp1, cv1, cw1⟩ := uk.2.1 11 _ rfl
  refine uu_ldcS cv1 dX0_userOf_5 ?_
  refine uu_iload_n dX0_userOf_7 rfl (List.mem_of_getElem? (i := 1) rfl) ?_
  obtain ⟨v2, e3, h⟩ := uu_ob h
  refine uu_cv (d1 := 5) (k := 1047) (ci := 9) (T := TX9) (N := 6) (As := [.ref cq1, .int x1]) (st := [.int 0]) (st' := [.int v2, .int 0]) (xc_X9_placeIn uk so_1047 cw1 e3) so_1047.is (by decide) rfl kX9_placeIn lX0_67 sX9_placeIn (by decide) (Nat.le_of_ble_eq_true rfl) dX0_userOf_8 rfl ?_
  refine uu_mmax lX0_71 (by decide) (Nat.le_of_ble_eq_true rfl) dX0_userOf_11 ?_
  have hr := Option.some.inj h
  subst hr
  exact uu_iret rfl dX0_userOf_14
abbrev mX5_range : hM := (yX5_range, cX5_range, 5, none)
theorem dX5_range_3 : decode cX5_range 3 = .ok (.iload 4, 2) := by decide +kernel
theorem dX5_range_5 : decode cX5_range 5 = .ok (.iload_n 3, 1) := by decide +kernel
theorem dX5_range_6 : decode cX5_range 6 = .ok (.if_icmp .ge 17, 3) := by decide +kernel
theorem dX5_range_23 : decode cX5_range 23 = .ok (.return_, 1) := by decide +kernel
theorem dX5_range_9 : decode cX5_range 9 = .ok (.aload_n 0, 1) := by decide +kernel
theorem dX5_range_10 : decode cX5_range 10 = .ok (.aload_n 1, 1) := by decide +kernel
theorem dX5_range_11 : decode cX5_range 11 = .ok (.iload 4, 2) := by decide +kernel
theorem dX5_range_13 : decode cX5_range 13 = .ok (.baload, 1) := by decide +kernel
theorem dX5_range_14 : decode cX5_range 14 = .ok (.invokevirtual 30, 3) := by decide +kernel
theorem dX5_range_17 : decode cX5_range 17 = .ok (.iinc 4 1, 3) := by decide +kernel
theorem dX5_range_20 : decode cX5_range 20 = .ok (.goto (-17), 3) := by decide +kernel
theorem dX5_range_0 : decode cX5_range 0 = .ok (.iload_n 2, 1) := by decide +kernel
theorem dX5_range_1 : decode cX5_range 1 = .ok (.istore 4, 2) := by decide +kernel
def fb_X5_range_3 (K3 : Nat → Nat → Int32 → Int32 → uS → Option uS) (k0 : Nat) (k1 : Nat) (x3 : Int32) (x4 : Int32) (s : uS) : Option uS := if x3 ≤ x4 then (some s) else ((iget 21 s k1 x4).bind fun v2 => (fn_X5_put k0 v2 s).bind fun s4 => K3 k0 k1 x3 (x4 + 1) s4)
set_option maxRecDepth 100000 in
set_option maxHeartbeats 4000000 in
theorem xb_X5_range_3 {l : Launch} {D : va_G} {A : Nat → ClassId} {B : Nat} {Z : State → Heap → Prop} {vF : Value} (uk : uK B Z vF) {K3 : Nat → Nat → Int32 → Int32 → uS → Option uS} (hK3 : ∀ (k0 : Nat) (k1 : Nat) (x3 : Int32) (x4 : Int32) (hk0 : uSo k0 5) (s : uS) (r : uS), K3 k0 k1 x3 x4 s = some r → GU l D A B Z mX5_range 1 (r, none) s 3 [(0, .ref (B + k0)), (1, .ref (B + k1)), (3, .int x3), (4, .int x4)] []) {k0 : Nat} {k1 : Nat} {x3 : Int32} {x4 : Int32} {s : uS} {r : uS} (hk0 : uSo k0 5) (h : fb_X5_range_3 K3 k0 k1 x3 x4 s = some r) : GU l D A B Z mX5_range 1 (r, none) s 3 [(0, .ref (B + k0)), (1, .ref (B + k1)), (3, .int x3), (4, .int x4)] [] := by
  unfold fb_X5_range_3 at h
  refine uu_iload dX5_range_3 (List.mem_of_getElem? (i := 3) rfl) ?_
  refine uu_iload_n dX5_range_5 rfl (List.mem_of_getElem? (i := 2) rfl) ?_
  refine uu_icmp_ge (tgt := 23) dX5_range_6 (by decide) (fun c1 => ?_) (fun c1 => ?_)
  · replace h := uu_pos c1 h
    have hr := Option.some.inj h
    subst hr
    exact uu_vret rfl dX5_range_23
  · replace h := uu_neg c1 h
    refine uu_aload_n dX5_range_9 rfl (List.mem_of_getElem? (i := 0) rfl) ?_
    refine uu_aload_n dX5_range_10 rfl (List.mem_of_getElem? (i := 1) rfl) ?_
    refine uu_iload dX5_range_11 (List.mem_of_getElem? (i := 3) rfl) ?_
    obtain ⟨v2, e3, h⟩ := uu_ob h
    refine uu_bald e3 dX5_range_13 ?_
    obtain ⟨s4, e5, h⟩ := uu_ob h
    refine uu_cv (d1 := 0) (k := k0) (ci := 5) (T := TX5) (N := 3) (As := [.int v2]) (st := []) (st' := []) (xc_X5_put uk hk0 e5) hk0.is (by decide) rfl kX5_put lX5_30 sX5_put (by decide) (Nat.le_of_ble_eq_true rfl) dX5_range_14 rfl ?_
    refine uu_iinc (v := x4 + 1) dX5_range_17 (k := 3) rfl rfl (by decide) rfl ?_
    refine uu_goto (tgt := 3) dX5_range_20 (by decide) ?_
    refine uu_lv [1, 2, 3, 0] (lv' := [(0, .ref (B + k0)), (1, .ref (B + k1)), (3, .int x3), (4, .int (x4 + 1))]) rfl ?_
    exact hK3 k0 k1 x3 (x4 + 1) hk0 _ _ h
def fn_X5_range_3  : Nat → Nat → Nat → Int32 → Int32 → uS → Option uS
  | 0 => fun _ _ _ _ _ => none
  | n + 1 => fb_X5_range_3 (fn_X5_range_3  n)
set_option maxRecDepth 100000 in
set_option maxHeartbeats 4000000 in
theorem xn_X5_range_3 {l : Launch} {D : va_G} {A : Nat → ClassId} {B : Nat} {Z : State → Heap → Prop} {vF : Value} (uk : uK B Z vF)   : ∀ (n : Nat) (k0 : Nat) (k1 : Nat) (x3 : Int32) (x4 : Int32) (hk0 : uSo k0 5) (s : uS) (r : uS), fn_X5_range_3  n k0 k1 x3 x4 s = some r → GU l D A B Z mX5_range 1 (r, none) s 3 [(0, .ref (B + k0)), (1, .ref (B + k1)), (3, .int x3), (4, .int x4)] [] := by
  intro n
  induction n with
  | zero => intro k0 k1 x3 x4 hk0 s r h
            cases h
  | succ n ih => intro k0 k1 x3 x4 hk0 s r h
                 exact xb_X5_range_3 uk ih hk0 h
def fn_X5_range (k0 : Nat) (k1 : Nat) (x2 : Int32) (x3 : Int32) (s : uS) : Option uS := fn_X5_range_3 uFu k0 k1 x3 x2 s
set_option maxRecDepth 100000 in
set_option maxHeartbeats 4000000 in
theorem xc_X5_range {l : Launch} {D : va_G} {A : Nat → ClassId} {B : Nat} {Z : State → Heap → Prop} {vF : Value} (uk : uK B Z vF) {k0 : Nat} {k1 : Nat} {x2 : Int32} {x3 : Int32} {s : uS} {r : uS} (hk0 : uSo k0 5) (h : fn_X5_range k0 k1 x2 x3 s = some r) : CU l D A B Z 1 mX5_range s [.ref (B + k0), .ref (B + k1), .int x2, .int x3] (r, none) := by
  unfold fn_X5_range at h
  refine cu_of rfl uk.1.1 (Nat.le_of_ble_eq_true rfl) ?_
  show GU _ _ _ _ _ _ _ _ _ 0 [(0, .ref (B + k0)), (1, .ref (B + k1)), (2, .int x2), (3, .int x3)] []
  refine uu_iload_n dX5_range_0 rfl (List.mem_of_getElem? (i := 2) rfl) ?_
  refine uu_istore dX5_range_1 (by decide) rfl ?_
  refine uu_lv [1, 2, 4, 0] (lv' := [(0, .ref (B + k0)), (1, .ref (B + k1)), (3, .int x3), (4, .int x2)]) rfl ?_
  exact xn_X5_range_3 uk  _ _ _ _ _ hk0 _ _ h
abbrev mX0_answerDelivered : hM := (yX0_answerDelivered, cX0_answerDelivered, 2, none)
theorem dX0_answerDelivered_0 : decode cX0_answerDelivered 0 = .ok (.aload_n 0, 1) := by decide +kernel
theorem dX0_answerDelivered_1 : decode cX0_answerDelivered 1 = .ok (.getfield 28, 3) := by decide +kernel
theorem dX0_answerDelivered_4 : decode cX0_answerDelivered 4 = .ok (.ldc 77, 2) := by decide +kernel
theorem lX0_79 : Cond.methodLink RX0 79 mX5_text.1 ∈ lw_g := h_t6 207 rfl rfl
theorem dX0_answerDelivered_6 : decode cX0_answerDelivered 6 = .ok (.invokevirtual 79, 3) := by decide +kernel
theorem dX0_answerDelivered_9 : decode cX0_answerDelivered 9 = .ok (.aload_n 0, 1) := by decide +kernel
theorem dX0_answerDelivered_10 : decode cX0_answerDelivered 10 = .ok (.getfield 28, 3) := by decide +kernel
theorem dX0_answerDelivered_13 : decode cX0_answerDelivered 13 = .ok (.aload_n 0, 1) := by decide +kernel
theorem dX0_answerDelivered_14 : decode cX0_answerDelivered 14 = .ok (.getfield 18, 3) := by decide +kernel
theorem fX0_81 : h_fl RX0 81 9 0 RX9 TX9 6 := ⟨rfl, by decide, inX9, h_t1 58 rfl rfl⟩
theorem dX0_answerDelivered_17 : decode cX0_answerDelivered 17 = .ok (.getfield 81, 3) := by decide +kernel
theorem dX0_answerDelivered_20 : decode cX0_answerDelivered 20 = .ok (.aload_n 0, 1) := by decide +kernel
theorem dX0_answerDelivered_21 : decode cX0_answerDelivered 21 = .ok (.getfield 18, 3) := by decide +kernel
theorem fX0_84 : h_fl RX0 84 9 1 RX9 TX9 6 := ⟨rfl, by decide, inX9, h_t1 66 rfl rfl⟩
theorem dX0_answerDelivered_24 : decode cX0_answerDelivered 24 = .ok (.getfield 84, 3) := by decide +kernel
theorem dX0_answerDelivered_27 : decode cX0_answerDelivered 27 = .ok (.iload_n 1, 1) := by decide +kernel
theorem dX0_answerDelivered_28 : decode cX0_answerDelivered 28 = .ok (.iaload, 1) := by decide +kernel
theorem dX0_answerDelivered_29 : decode cX0_answerDelivered 29 = .ok (.aload_n 0, 1) := by decide +kernel
theorem dX0_answerDelivered_30 : decode cX0_answerDelivered 30 = .ok (.getfield 18, 3) := by decide +kernel
theorem fX0_88 : h_fl RX0 88 9 2 RX9 TX9 6 := ⟨rfl, by decide, inX9, h_t1 74 rfl rfl⟩
theorem dX0_answerDelivered_33 : decode cX0_answerDelivered 33 = .ok (.getfield 88, 3) := by decide +kernel
theorem dX0_answerDelivered_36 : decode cX0_answerDelivered 36 = .ok (.iload_n 1, 1) := by decide +kernel
theorem dX0_answerDelivered_37 : decode cX0_answerDelivered 37 = .ok (.iaload, 1) := by decide +kernel
theorem kX5_range : h_ml mX5_range 3 := ⟨h_t6 211 rfl rfl, h_t1 6 rfl rfl, ⟨by decide, by decide, by decide +kernel⟩, by decide⟩
theorem lX0_91 : Cond.methodLink RX0 91 mX5_range.1 ∈ lw_g := h_t6 208 rfl rfl
theorem sX5_range : Cond.instanceMethod mX5_range.1 ∈ lw_g ∧ Cond.selects mX5_range.1.cls mX5_range.1 mX5_range.1 ∈ lw_g := ⟨h_t6 209 rfl rfl, h_t6 210 rfl rfl⟩
theorem dX0_answerDelivered_38 : decode cX0_answerDelivered 38 = .ok (.invokevirtual 91, 3) := by decide +kernel
theorem dX0_answerDelivered_41 : decode cX0_answerDelivered 41 = .ok (.aload_n 0, 1) := by decide +kernel
theorem dX0_answerDelivered_42 : decode cX0_answerDelivered 42 = .ok (.getfield 28, 3) := by decide +kernel
theorem dX0_answerDelivered_45 : decode cX0_answerDelivered 45 = .ok (.ldc 95, 2) := by decide +kernel
theorem dX0_answerDelivered_47 : decode cX0_answerDelivered 47 = .ok (.invokevirtual 41, 3) := by decide +kernel
theorem dX0_answerDelivered_50 : decode cX0_answerDelivered 50 = .ok (.return_, 1) := by decide +kernel
def fn_X0_answerDelivered (x1 : Int32) (s : uS) : Option uS := (fn_X5_text 1040 kW_12 s).bind fun s2 => (iget 20 s2 1049 x1).bind fun v4 => (iget 20 s2 1050 x1).bind fun v6 => (fn_X5_range 1040 1048 v4 v6 s2).bind fun s8 => (fn_X5_line 1040 kW_13 s8).bind fun s11 => some s11
set_option maxRecDepth 100000 in
set_option maxHeartbeats 4000000 in
theorem xc_X0_answerDelivered {l : Launch} {D : va_G} {A : Nat → ClassId} {B : Nat} {Z : State → Heap → Prop} {vF : Value} (uk : uK B Z vF) {x1 : Int32} {s : uS} {r : uS}  (h : fn_X0_answerDelivered x1 s = some r) : CU l D A B Z 6 mX0_answerDelivered s [.ref (B + 1042), .int x1] (r, none) := by
  unfold fn_X0_answerDelivered at h
  refine cu_of rfl uk.1.1 (Nat.le_of_ble_eq_true rfl) ?_
  show GU _ _ _ _ _ _ _ _ _ 0 [(0, .ref (B + 1042)), (1, .int x1)] []
  refine uu_aload_n dX0_answerDelivered_0 rfl (List.mem_of_getElem? (i := 0) rfl) ?_
  refine uu_geta (ci := 0) (N := 12) fX0_28 (by decide) so_1042.is (by decide) (c := 1040) (by decide) dX0_answerDelivered_1 ?_
  obtain ⟨cq1, cp1, cv1, cw1⟩ := uk.2.1 12 _ rfl
  refine uu_ldcS cv1 dX0_answerDelivered_4 ?_
  obtain ⟨s2, e3, h⟩ := uu_ob h
  refine uu_cv (d1 := 4) (k := 1040) (ci := 5) (T := TX5) (N := 3) (As := [.ref cq1]) (st := []) (st' := []) (xc_X5_text uk so_1040 cw1 e3) so_1040.is (by decide) rfl kX5_text lX0_79 sX5_text (by decide) (Nat.le_of_ble_eq_true rfl) dX0_answerDelivered_6 rfl ?_
  refine uu_aload_n dX0_answerDelivered_9 rfl (List.mem_of_getElem? (i := 0) rfl) ?_
  refine uu_geta (ci := 0) (N := 12) fX0_28 (by decide) so_1042.is (by decide) (c := 1040) (by decide) dX0_answerDelivered_10 ?_
  refine uu_aload_n dX0_answerDelivered_13 rfl (List.mem_of_getElem? (i := 0) rfl) ?_
  refine uu_geta (ci := 0) (N := 12) fX0_18 (by decide) so_1042.is (by decide) (c := 1047) (by decide) dX0_answerDelivered_14 ?_
  refine uu_getc (ci := 9) (N := 6) fX0_81 (by decide) so_1047.is (by decide) (c := 1) (by decide) (k2 := 1048) rfl dX0_answerDelivered_17 ?_
  refine uu_aload_n dX0_answerDelivered_20 rfl (List.mem_of_getElem? (i := 0) rfl) ?_
  refine uu_geta (ci := 0) (N := 12) fX0_18 (by decide) so_1042.is (by decide) (c := 1047) (by decide) dX0_answerDelivered_21 ?_
  refine uu_getc (ci := 9) (N := 6) fX0_84 (by decide) so_1047.is (by decide) (c := 2) (by decide) (k2 := 1049) rfl dX0_answerDelivered_24 ?_
  refine uu_iload_n dX0_answerDelivered_27 rfl (List.mem_of_getElem? (i := 1) rfl) ?_
  obtain ⟨v4, e5, h⟩ := uu_ob h
  refine uu_iald e5 dX0_answerDelivered_28 ?_
  refine uu_aload_n dX0_answerDelivered_29 rfl (List.mem_of_getElem? (i := 0) rfl) ?_
  refine uu_geta (ci := 0) (N := 12) fX0_18 (by decide) so_1042.is (by decide) (c := 1047) (by decide) dX0_answerDelivered_30 ?_
  refine uu_getc (ci := 9) (N := 6) fX0_88 (by decide) so_1047.is (by decide) (c := 3) (by decide) (k2 := 1050) rfl dX0_answerDelivered_33 ?_
  refine uu_iload_n dX0_answerDelivered_36 rfl (List.mem_of_getElem? (i := 1) rfl) ?_
  obtain ⟨v6, e7, h⟩ := uu_ob h
  refine uu_iald e7 dX0_answerDelivered_37 ?_
  obtain ⟨s8, e9, h⟩ := uu_ob h
  refine uu_cv (d1 := 1) (k := 1040) (ci := 5) (T := TX5) (N := 3) (As := [.ref (B + 1048), .int v4, .int v6]) (st := []) (st' := []) (xc_X5_range uk so_1040 e9) so_1040.is (by decide) rfl kX5_range lX0_91 sX5_range (by decide) (Nat.le_of_ble_eq_true rfl) dX0_answerDelivered_38 rfl ?_
  refine uu_aload_n dX0_answerDelivered_41 rfl (List.mem_of_getElem? (i := 0) rfl) ?_
  refine uu_geta (ci := 0) (N := 12) fX0_28 (by decide) so_1042.is (by decide) (c := 1040) (by decide) dX0_answerDelivered_42 ?_
  obtain ⟨cq10, cp10, cv10, cw10⟩ := uk.2.1 13 _ rfl
  refine uu_ldcS cv10 dX0_answerDelivered_45 ?_
  obtain ⟨s11, e12, h⟩ := uu_ob h
  refine uu_cv (d1 := 5) (k := 1040) (ci := 5) (T := TX5) (N := 3) (As := [.ref cq10]) (st := []) (st' := []) (xc_X5_line uk so_1040 cw10 e12) so_1040.is (by decide) rfl kX5_line lX0_41 sX5_line (by decide) (Nat.le_of_ble_eq_true rfl) dX0_answerDelivered_47 rfl ?_
  have hr := Option.some.inj h
  subst hr
  exact uu_vret rfl dX0_answerDelivered_50
abbrev mX0_takeInCommands : hM := (yX0_takeInCommands, cX0_takeInCommands, 2, (some (.int)))
theorem dX0_takeInCommands_43 : decode cX0_takeInCommands 43 = .ok (.aload_n 0, 1) := by decide +kernel
theorem dX0_takeInCommands_44 : decode cX0_takeInCommands 44 = .ok (.aload_n 0, 1) := by decide +kernel
theorem dX0_takeInCommands_45 : decode cX0_takeInCommands 45 = .ok (.getfield 52, 3) := by decide +kernel
theorem dX0_takeInCommands_48 : decode cX0_takeInCommands 48 = .ok (.iconst 1, 1) := by decide +kernel
theorem dX0_takeInCommands_49 : decode cX0_takeInCommands 49 = .ok (.iadd, 1) := by decide +kernel
theorem dX0_takeInCommands_50 : decode cX0_takeInCommands 50 = .ok (.aload_n 0, 1) := by decide +kernel
theorem dX0_takeInCommands_51 : decode cX0_takeInCommands 51 = .ok (.getfield 25, 3) := by decide +kernel
theorem dX0_takeInCommands_54 : decode cX0_takeInCommands 54 = .ok (.arraylength, 1) := by decide +kernel
theorem dX0_takeInCommands_55 : decode cX0_takeInCommands 55 = .ok (.iconst 1, 1) := by decide +kernel
theorem dX0_takeInCommands_56 : decode cX0_takeInCommands 56 = .ok (.iadd, 1) := by decide +kernel
theorem lX0_104 : Cond.methodLink RX0 104 Lib.Math.min.name ∈ lw_g := h_t3 182 rfl rfl
theorem dX0_takeInCommands_57 : decode cX0_takeInCommands 57 = .ok (.invokestatic 104, 3) := by decide +kernel
theorem dX0_takeInCommands_60 : decode cX0_takeInCommands 60 = .ok (.putfield 52, 3) := by decide +kernel
theorem dX0_takeInCommands_63 : decode cX0_takeInCommands 63 = .ok (.aload_n 0, 1) := by decide +kernel
theorem dX0_takeInCommands_64 : decode cX0_takeInCommands 64 = .ok (.iload_n 1, 1) := by decide +kernel
theorem dX0_takeInCommands_65 : decode cX0_takeInCommands 65 = .ok (.bipush 13, 2) := by decide +kernel
theorem dX0_takeInCommands_67 : decode cX0_takeInCommands 67 = .ok (.if_icmp .ne 7, 3) := by decide +kernel
theorem dX0_takeInCommands_74 : decode cX0_takeInCommands 74 = .ok (.iconst 0, 1) := by decide +kernel
theorem dX0_takeInCommands_75 : decode cX0_takeInCommands 75 = .ok (.putfield 49, 3) := by decide +kernel
theorem dX0_takeInCommands_78 : decode cX0_takeInCommands 78 = .ok (.iconst 0, 1) := by decide +kernel
theorem dX0_takeInCommands_79 : decode cX0_takeInCommands 79 = .ok (.ireturn, 1) := by decide +kernel
theorem dX0_takeInCommands_70 : decode cX0_takeInCommands 70 = .ok (.iconst 1, 1) := by decide +kernel
theorem dX0_takeInCommands_71 : decode cX0_takeInCommands 71 = .ok (.goto 4, 3) := by decide +kernel
theorem dX0_takeInCommands_20 : decode cX0_takeInCommands 20 = .ok (.aload_n 0, 1) := by decide +kernel
theorem dX0_takeInCommands_21 : decode cX0_takeInCommands 21 = .ok (.getfield 52, 3) := by decide +kernel
theorem dX0_takeInCommands_24 : decode cX0_takeInCommands 24 = .ok (.aload_n 0, 1) := by decide +kernel
theorem dX0_takeInCommands_25 : decode cX0_takeInCommands 25 = .ok (.getfield 25, 3) := by decide +kernel
theorem dX0_takeInCommands_28 : decode cX0_takeInCommands 28 = .ok (.arraylength, 1) := by decide +kernel
theorem dX0_takeInCommands_29 : decode cX0_takeInCommands 29 = .ok (.if_icmp .ge 14, 3) := by decide +kernel
theorem dX0_takeInCommands_32 : decode cX0_takeInCommands 32 = .ok (.aload_n 0, 1) := by decide +kernel
theorem dX0_takeInCommands_33 : decode cX0_takeInCommands 33 = .ok (.getfield 25, 3) := by decide +kernel
theorem dX0_takeInCommands_36 : decode cX0_takeInCommands 36 = .ok (.aload_n 0, 1) := by decide +kernel
theorem dX0_takeInCommands_37 : decode cX0_takeInCommands 37 = .ok (.getfield 52, 3) := by decide +kernel
theorem dX0_takeInCommands_40 : decode cX0_takeInCommands 40 = .ok (.iload_n 1, 1) := by decide +kernel
theorem dX0_takeInCommands_41 : decode cX0_takeInCommands 41 = .ok (.i2b, 1) := by decide +kernel
theorem dX0_takeInCommands_42 : decode cX0_takeInCommands 42 = .ok (.bastore, 1) := by decide +kernel
theorem dX0_takeInCommands_0 : decode cX0_takeInCommands 0 = .ok (.iload_n 1, 1) := by decide +kernel
theorem dX0_takeInCommands_1 : decode cX0_takeInCommands 1 = .ok (.bipush 10, 2) := by decide +kernel
theorem dX0_takeInCommands_3 : decode cX0_takeInCommands 3 = .ok (.if_icmp .ne 17, 3) := by decide +kernel
theorem dX0_takeInCommands_6 : decode cX0_takeInCommands 6 = .ok (.aload_n 0, 1) := by decide +kernel
theorem dX0_takeInCommands_7 : decode cX0_takeInCommands 7 = .ok (.getfield 49, 3) := by decide +kernel
theorem dX0_takeInCommands_10 : decode cX0_takeInCommands 10 = .ok (.ifCond .eq 10, 3) := by decide +kernel
theorem dX0_takeInCommands_13 : decode cX0_takeInCommands 13 = .ok (.aload_n 0, 1) := by decide +kernel
theorem dX0_takeInCommands_14 : decode cX0_takeInCommands 14 = .ok (.iconst 0, 1) := by decide +kernel
theorem dX0_takeInCommands_15 : decode cX0_takeInCommands 15 = .ok (.putfield 49, 3) := by decide +kernel
theorem dX0_takeInCommands_18 : decode cX0_takeInCommands 18 = .ok (.iconst 1, 1) := by decide +kernel
theorem dX0_takeInCommands_19 : decode cX0_takeInCommands 19 = .ok (.ireturn, 1) := by decide +kernel
def fb_X0_takeInCommands_43  (x1 : Int32) (s : uS) : Option (uS × Int32) := (ulen s 1052).bind fun v1 => if x1 = 13 then (some (wI (wI s 1042 7 (if (v1 + 1) < ((s.I 1042 7) + 1) then (v1 + 1) else ((s.I 1042 7) + 1))) 1042 9 1, (0 : Int32))) else (some (wI (wI s 1042 7 (if (v1 + 1) < ((s.I 1042 7) + 1) then (v1 + 1) else ((s.I 1042 7) + 1))) 1042 9 0, (0 : Int32)))
set_option maxRecDepth 100000 in
set_option maxHeartbeats 4000000 in
theorem xb_X0_takeInCommands_43 {l : Launch} {D : va_G} {A : Nat → ClassId} {B : Nat} {Z : State → Heap → Prop} {vF : Value} (uk : uK B Z vF)   {x1 : Int32} {s : uS} {r : (uS × Int32)}  (h : fb_X0_takeInCommands_43  x1 s = some r) : GU l D A B Z mX0_takeInCommands 1 (r.1, some (.int r.2)) s 43 [(0, .ref (B + 1042)), (1, .int x1)] [] := by
  unfold fb_X0_takeInCommands_43 at h
  refine uu_aload_n dX0_takeInCommands_43 rfl (List.mem_of_getElem? (i := 0) rfl) ?_
  refine uu_aload_n dX0_takeInCommands_44 rfl (List.mem_of_getElem? (i := 0) rfl) ?_
  refine uu_geti (ci := 0) (N := 12) fX0_52 (by decide) so_1042.is (by decide) (by decide) dX0_takeInCommands_45 ?_
  refine uu_iconst (v := 1) dX0_takeInCommands_48 (by decide) ?_
  refine uu_iadd dX0_takeInCommands_49 ?_
  refine uu_aload_n dX0_takeInCommands_50 rfl (List.mem_of_getElem? (i := 0) rfl) ?_
  refine uu_geta (ci := 0) (N := 12) fX0_25 (by decide) so_1042.is (by decide) (c := 1052) (by decide) dX0_takeInCommands_51 ?_
  obtain ⟨v1, e2, h⟩ := uu_ob h
  refine uu_alen e2 dX0_takeInCommands_54 ?_
  refine uu_iconst (v := 1) dX0_takeInCommands_55 (by decide) ?_
  refine uu_iadd dX0_takeInCommands_56 ?_
  refine uu_mmin lX0_104 (by decide) (Nat.le_of_ble_eq_true rfl) dX0_takeInCommands_57 ?_
  refine uu_puti (ft := .int) (ci := 0) (N := 12) fX0_52 ptX0 (Or.inl rfl) (by decide) so_1042.is (by decide) (by decide) (by decide +kernel) rfl rfl dX0_takeInCommands_60 ?_
  refine uu_aload_n dX0_takeInCommands_63 rfl (List.mem_of_getElem? (i := 0) rfl) ?_
  refine uu_iload_n dX0_takeInCommands_64 rfl (List.mem_of_getElem? (i := 1) rfl) ?_
  refine uu_bipush (v := 13) dX0_takeInCommands_65 (by decide) ?_
  refine uu_icmp_ne (tgt := 74) dX0_takeInCommands_67 (by decide) (fun c3 => ?_) (fun c3 => ?_)
  · replace h := uu_neg c3 h
    refine uu_iconst (v := 0) dX0_takeInCommands_74 (by decide) ?_
    refine uu_puti (ft := .boolean) (ci := 0) (N := 12) fX0_49 ptX0 (Or.inl rfl) (by decide) so_1042.is (by decide) (by decide) (by decide +kernel) rfl rfl dX0_takeInCommands_75 ?_
    refine uu_iconst (v := 0) dX0_takeInCommands_78 (by decide) ?_
    have hr := Option.some.inj h
    subst hr
    exact uu_iret rfl dX0_takeInCommands_79
  · replace h := uu_pos c3 h
    refine uu_iconst (v := 1) dX0_takeInCommands_70 (by decide) ?_
    refine uu_goto (tgt := 75) dX0_takeInCommands_71 (by decide) ?_
    refine uu_puti (ft := .boolean) (ci := 0) (N := 12) fX0_49 ptX0 (Or.inl rfl) (by decide) so_1042.is (by decide) (by decide) (by decide +kernel) rfl rfl dX0_takeInCommands_75 ?_
    refine uu_iconst (v := 0) dX0_takeInCommands_78 (by decide) ?_
    have hr := Option.some.inj h
    subst hr
    exact uu_iret rfl dX0_takeInCommands_79
def fb_X0_takeInCommands_20  (x1 : Int32) (s : uS) : Option (uS × Int32) := (ulen s 1052).bind fun v1 => if v1 ≤ (s.I 1042 7) then (fb_X0_takeInCommands_43 x1 s) else ((iput 21 s 1052 (s.I 1042 7) x1.toInt8.toInt32).bind fun s4 => fb_X0_takeInCommands_43 x1 s4)
set_option maxRecDepth 100000 in
set_option maxHeartbeats 4000000 in
theorem xb_X0_takeInCommands_20 {l : Launch} {D : va_G} {A : Nat → ClassId} {B : Nat} {Z : State → Heap → Prop} {vF : Value} (uk : uK B Z vF)   {x1 : Int32} {s : uS} {r : (uS × Int32)}  (h : fb_X0_takeInCommands_20  x1 s = some r) : GU l D A B Z mX0_takeInCommands 1 (r.1, some (.int r.2)) s 20 [(0, .ref (B + 1042)), (1, .int x1)] [] := by
  unfold fb_X0_takeInCommands_20 at h
  refine uu_aload_n dX0_takeInCommands_20 rfl (List.mem_of_getElem? (i := 0) rfl) ?_
  refine uu_geti (ci := 0) (N := 12) fX0_52 (by decide) so_1042.is (by decide) (by decide) dX0_takeInCommands_21 ?_
  refine uu_aload_n dX0_takeInCommands_24 rfl (List.mem_of_getElem? (i := 0) rfl) ?_
  refine uu_geta (ci := 0) (N := 12) fX0_25 (by decide) so_1042.is (by decide) (c := 1052) (by decide) dX0_takeInCommands_25 ?_
  obtain ⟨v1, e2, h⟩ := uu_ob h
  refine uu_alen e2 dX0_takeInCommands_28 ?_
  refine uu_icmp_ge (tgt := 43) dX0_takeInCommands_29 (by decide) (fun c3 => ?_) (fun c3 => ?_)
  · replace h := uu_pos c3 h
    exact xb_X0_takeInCommands_43 uk  h
  · replace h := uu_neg c3 h
    refine uu_aload_n dX0_takeInCommands_32 rfl (List.mem_of_getElem? (i := 0) rfl) ?_
    refine uu_geta (ci := 0) (N := 12) fX0_25 (by decide) so_1042.is (by decide) (c := 1052) (by decide) dX0_takeInCommands_33 ?_
    refine uu_aload_n dX0_takeInCommands_36 rfl (List.mem_of_getElem? (i := 0) rfl) ?_
    refine uu_geti (ci := 0) (N := 12) fX0_52 (by decide) so_1042.is (by decide) (by decide) dX0_takeInCommands_37 ?_
    refine uu_iload_n dX0_takeInCommands_40 rfl (List.mem_of_getElem? (i := 1) rfl) ?_
    refine uu_i2b dX0_takeInCommands_41 rfl ?_
    obtain ⟨s4, e5, h⟩ := uu_ob h
    refine uu_bast e5 dX0_takeInCommands_42 ?_
    exact xb_X0_takeInCommands_43 uk  h
def fn_X0_takeInCommands (x1 : Int32) (s : uS) : Option (uS × Int32) := if x1 = 10 then (if (s.I 1042 9) = 0 then (fb_X0_takeInCommands_20 x1 s) else (some (wI s 1042 9 0, (1 : Int32)))) else (fb_X0_takeInCommands_20 x1 s)
set_option maxRecDepth 100000 in
set_option maxHeartbeats 4000000 in
theorem xc_X0_takeInCommands {l : Launch} {D : va_G} {A : Nat → ClassId} {B : Nat} {Z : State → Heap → Prop} {vF : Value} (uk : uK B Z vF) {x1 : Int32} {s : uS} {r : (uS × Int32)}  (h : fn_X0_takeInCommands x1 s = some r) : CU l D A B Z 1 mX0_takeInCommands s [.ref (B + 1042), .int x1] (r.1, some (.int r.2)) := by
  unfold fn_X0_takeInCommands at h
  refine cu_of rfl uk.1.1 (Nat.le_of_ble_eq_true rfl) ?_
  show GU _ _ _ _ _ _ _ _ _ 0 [(0, .ref (B + 1042)), (1, .int x1)] []
  refine uu_iload_n dX0_takeInCommands_0 rfl (List.mem_of_getElem? (i := 1) rfl) ?_
  refine uu_bipush (v := 10) dX0_takeInCommands_1 (by decide) ?_
  refine uu_icmp_ne (tgt := 20) dX0_takeInCommands_3 (by decide) (fun c1 => ?_) (fun c1 => ?_)
  · replace h := uu_neg c1 h
    exact xb_X0_takeInCommands_20 uk  h
  · replace h := uu_pos c1 h
    refine uu_aload_n dX0_takeInCommands_6 rfl (List.mem_of_getElem? (i := 0) rfl) ?_
    refine uu_geti (ci := 0) (N := 12) fX0_49 (by decide) so_1042.is (by decide) (by decide) dX0_takeInCommands_7 ?_
    refine uu_if_eq (tgt := 20) dX0_takeInCommands_10 (by decide) (fun c2 => ?_) (fun c2 => ?_)
    · replace h := uu_pos c2 h
      exact xb_X0_takeInCommands_20 uk  h
    · replace h := uu_neg c2 h
      refine uu_aload_n dX0_takeInCommands_13 rfl (List.mem_of_getElem? (i := 0) rfl) ?_
      refine uu_iconst (v := 0) dX0_takeInCommands_14 (by decide) ?_
      refine uu_puti (ft := .boolean) (ci := 0) (N := 12) fX0_49 ptX0 (Or.inl rfl) (by decide) so_1042.is (by decide) (by decide) (by decide +kernel) rfl rfl dX0_takeInCommands_15 ?_
      refine uu_iconst (v := 1) dX0_takeInCommands_18 (by decide) ?_
      have hr := Option.some.inj h
      subst hr
      exact uu_iret rfl dX0_takeInCommands_19
abbrev mX0_addToText : hM := (yX0_addToText, cX0_addToText, 2, none)
theorem dX0_addToText_21 : decode cX0_addToText 21 = .ok (.aload_n 0, 1) := by decide +kernel
theorem dX0_addToText_22 : decode cX0_addToText 22 = .ok (.aload_n 0, 1) := by decide +kernel
theorem dX0_addToText_23 : decode cX0_addToText 23 = .ok (.getfield 62, 3) := by decide +kernel
theorem dX0_addToText_26 : decode cX0_addToText 26 = .ok (.iconst 1, 1) := by decide +kernel
theorem dX0_addToText_27 : decode cX0_addToText 27 = .ok (.iadd, 1) := by decide +kernel
theorem dX0_addToText_28 : decode cX0_addToText 28 = .ok (.sipush 4001, 3) := by decide +kernel
theorem dX0_addToText_31 : decode cX0_addToText 31 = .ok (.invokestatic 104, 3) := by decide +kernel
theorem dX0_addToText_34 : decode cX0_addToText 34 = .ok (.putfield 62, 3) := by decide +kernel
theorem dX0_addToText_37 : decode cX0_addToText 37 = .ok (.return_, 1) := by decide +kernel
theorem dX0_addToText_0 : decode cX0_addToText 0 = .ok (.aload_n 0, 1) := by decide +kernel
theorem dX0_addToText_1 : decode cX0_addToText 1 = .ok (.getfield 62, 3) := by decide +kernel
theorem dX0_addToText_4 : decode cX0_addToText 4 = .ok (.sipush 4000, 3) := by decide +kernel
theorem dX0_addToText_7 : decode cX0_addToText 7 = .ok (.if_icmp .ge 14, 3) := by decide +kernel
theorem dX0_addToText_10 : decode cX0_addToText 10 = .ok (.aload_n 0, 1) := by decide +kernel
theorem dX0_addToText_11 : decode cX0_addToText 11 = .ok (.getfield 21, 3) := by decide +kernel
theorem dX0_addToText_14 : decode cX0_addToText 14 = .ok (.aload_n 0, 1) := by decide +kernel
theorem dX0_addToText_15 : decode cX0_addToText 15 = .ok (.getfield 62, 3) := by decide +kernel
theorem dX0_addToText_18 : decode cX0_addToText 18 = .ok (.iload_n 1, 1) := by decide +kernel
theorem dX0_addToText_19 : decode cX0_addToText 19 = .ok (.i2b, 1) := by decide +kernel
theorem dX0_addToText_20 : decode cX0_addToText 20 = .ok (.bastore, 1) := by decide +kernel
def fb_X0_addToText_21   (s : uS) : Option uS := some (wI s 1042 3 (if (4001 : Int32) < ((s.I 1042 3) + 1) then (4001 : Int32) else ((s.I 1042 3) + 1)))
set_option maxRecDepth 100000 in
set_option maxHeartbeats 4000000 in
theorem xb_X0_addToText_21 {l : Launch} {D : va_G} {A : Nat → ClassId} {B : Nat} {Z : State → Heap → Prop} {vF : Value} (uk : uK B Z vF)    {s : uS} {r : uS}  (h : fb_X0_addToText_21   s = some r) : GU l D A B Z mX0_addToText 1 (r, none) s 21 [(0, .ref (B + 1042))] [] := by
  unfold fb_X0_addToText_21 at h
  refine uu_aload_n dX0_addToText_21 rfl (List.mem_of_getElem? (i := 0) rfl) ?_
  refine uu_aload_n dX0_addToText_22 rfl (List.mem_of_getElem? (i := 0) rfl) ?_
  refine uu_geti (ci := 0) (N := 12) fX0_62 (by decide) so_1042.is (by decide) (by decide) dX0_addToText_23 ?_
  refine uu_iconst (v := 1) dX0_addToText_26 (by decide) ?_
  refine uu_iadd dX0_addToText_27 ?_
  refine uu_sipush (v := 4001) dX0_addToText_28 (by decide) ?_
  refine uu_mmin lX0_104 (by decide) (Nat.le_of_ble_eq_true rfl) dX0_addToText_31 ?_
  refine uu_puti (ft := .int) (ci := 0) (N := 12) fX0_62 ptX0 (Or.inl rfl) (by decide) so_1042.is (by decide) (by decide) (by decide +kernel) rfl rfl dX0_addToText_34 ?_
  have hr := Option.some.inj h
  subst hr
  exact uu_vret rfl dX0_addToText_37
def fn_X0_addToText (x1 : Int32) (s : uS) : Option uS := if (4000 : Int32) ≤ (s.I 1042 3) then (fb_X0_addToText_21 s) else ((iput 21 s 1051 (s.I 1042 3) x1.toInt8.toInt32).bind fun s2 => fb_X0_addToText_21 s2)
set_option maxRecDepth 100000 in
set_option maxHeartbeats 4000000 in
theorem xc_X0_addToText {l : Launch} {D : va_G} {A : Nat → ClassId} {B : Nat} {Z : State → Heap → Prop} {vF : Value} (uk : uK B Z vF) {x1 : Int32} {s : uS} {r : uS}  (h : fn_X0_addToText x1 s = some r) : CU l D A B Z 1 mX0_addToText s [.ref (B + 1042), .int x1] (r, none) := by
  unfold fn_X0_addToText at h
  refine cu_of rfl uk.1.1 (Nat.le_of_ble_eq_true rfl) ?_
  show GU _ _ _ _ _ _ _ _ _ 0 [(0, .ref (B + 1042)), (1, .int x1)] []
  refine uu_aload_n dX0_addToText_0 rfl (List.mem_of_getElem? (i := 0) rfl) ?_
  refine uu_geti (ci := 0) (N := 12) fX0_62 (by decide) so_1042.is (by decide) (by decide) dX0_addToText_1 ?_
  refine uu_sipush (v := 4000) dX0_addToText_4 (by decide) ?_
  refine uu_icmp_ge (tgt := 21) dX0_addToText_7 (by decide) (fun c1 => ?_) (fun c1 => ?_)
  · replace h := uu_pos c1 h
    refine uu_lv [0] (lv' := [(0, .ref (B + 1042))]) rfl ?_
    exact xb_X0_addToText_21 uk  h
  · replace h := uu_neg c1 h
    refine uu_aload_n dX0_addToText_10 rfl (List.mem_of_getElem? (i := 0) rfl) ?_
    refine uu_geta (ci := 0) (N := 12) fX0_21 (by decide) so_1042.is (by decide) (c := 1051) (by decide) dX0_addToText_11 ?_
    refine uu_aload_n dX0_addToText_14 rfl (List.mem_of_getElem? (i := 0) rfl) ?_
    refine uu_geti (ci := 0) (N := 12) fX0_62 (by decide) so_1042.is (by decide) (by decide) dX0_addToText_15 ?_
    refine uu_iload_n dX0_addToText_18 rfl (List.mem_of_getElem? (i := 1) rfl) ?_
    refine uu_i2b dX0_addToText_19 rfl ?_
    obtain ⟨s2, e3, h⟩ := uu_ob h
    refine uu_bast e3 dX0_addToText_20 ?_
    refine uu_lv [0] (lv' := [(0, .ref (B + 1042))]) rfl ?_
    exact xb_X0_addToText_21 uk  h
abbrev mX0_takeInMessage : hM := (yX0_takeInMessage, cX0_takeInMessage, 2, (some (.int)))
theorem dX0_takeInMessage_109 : decode cX0_takeInMessage 109 = .ok (.putfield 56, 3) := by decide +kernel
theorem dX0_takeInMessage_112 : decode cX0_takeInMessage 112 = .ok (.aload_n 0, 1) := by decide +kernel
theorem dX0_takeInMessage_113 : decode cX0_takeInMessage 113 = .ok (.iload_n 1, 1) := by decide +kernel
theorem dX0_takeInMessage_114 : decode cX0_takeInMessage 114 = .ok (.bipush 13, 2) := by decide +kernel
theorem dX0_takeInMessage_116 : decode cX0_takeInMessage 116 = .ok (.if_icmp .ne 7, 3) := by decide +kernel
theorem dX0_takeInMessage_123 : decode cX0_takeInMessage 123 = .ok (.iconst 0, 1) := by decide +kernel
theorem dX0_takeInMessage_124 : decode cX0_takeInMessage 124 = .ok (.putfield 49, 3) := by decide +kernel
theorem dX0_takeInMessage_127 : decode cX0_takeInMessage 127 = .ok (.iconst 0, 1) := by decide +kernel
theorem dX0_takeInMessage_128 : decode cX0_takeInMessage 128 = .ok (.ireturn, 1) := by decide +kernel
theorem dX0_takeInMessage_119 : decode cX0_takeInMessage 119 = .ok (.iconst 1, 1) := by decide +kernel
theorem dX0_takeInMessage_120 : decode cX0_takeInMessage 120 = .ok (.goto 4, 3) := by decide +kernel
theorem dX0_takeInMessage_85 : decode cX0_takeInMessage 85 = .ok (.aload_n 0, 1) := by decide +kernel
theorem dX0_takeInMessage_86 : decode cX0_takeInMessage 86 = .ok (.iload_n 1, 1) := by decide +kernel
theorem kX0_addToText : h_ml mX0_addToText 1 := ⟨h_t3 192 rfl rfl, h_t1 13 rfl rfl, ⟨by decide, by decide, by decide +kernel⟩, by decide⟩
theorem lX0_107 : Cond.methodLink RX0 107 mX0_addToText.1 ∈ lw_g := h_t3 189 rfl rfl
theorem sX0_addToText : Cond.instanceMethod mX0_addToText.1 ∈ lw_g ∧ Cond.selects mX0_addToText.1.cls mX0_addToText.1 mX0_addToText.1 ∈ lw_g := ⟨h_t3 191 rfl rfl, h_ins 3 rfl⟩
theorem dX0_takeInMessage_87 : decode cX0_takeInMessage 87 = .ok (.invokevirtual 107, 3) := by decide +kernel
theorem dX0_takeInMessage_90 : decode cX0_takeInMessage 90 = .ok (.aload_n 0, 1) := by decide +kernel
theorem dX0_takeInMessage_91 : decode cX0_takeInMessage 91 = .ok (.iload_n 1, 1) := by decide +kernel
theorem dX0_takeInMessage_92 : decode cX0_takeInMessage 92 = .ok (.bipush 10, 2) := by decide +kernel
theorem dX0_takeInMessage_94 : decode cX0_takeInMessage 94 = .ok (.if_icmp .ne 14, 3) := by decide +kernel
theorem dX0_takeInMessage_108 : decode cX0_takeInMessage 108 = .ok (.iconst 4, 1) := by decide +kernel
theorem dX0_takeInMessage_97 : decode cX0_takeInMessage 97 = .ok (.aload_n 0, 1) := by decide +kernel
theorem dX0_takeInMessage_98 : decode cX0_takeInMessage 98 = .ok (.getfield 49, 3) := by decide +kernel
theorem dX0_takeInMessage_101 : decode cX0_takeInMessage 101 = .ok (.ifCond .eq 7, 3) := by decide +kernel
theorem dX0_takeInMessage_104 : decode cX0_takeInMessage 104 = .ok (.iconst 1, 1) := by decide +kernel
theorem dX0_takeInMessage_105 : decode cX0_takeInMessage 105 = .ok (.goto 4, 3) := by decide +kernel
theorem dX0_takeInMessage_0 : decode cX0_takeInMessage 0 = .ok (.aload_n 0, 1) := by decide +kernel
theorem dX0_takeInMessage_1 : decode cX0_takeInMessage 1 = .ok (.getfield 56, 3) := by decide +kernel
theorem dX0_takeInMessage_4 : decode cX0_takeInMessage 4 = .ok (.tableswitch 81 1 3 #[28, 41, 54], 28) := by decide +kernel
theorem dX0_takeInMessage_32 : decode cX0_takeInMessage 32 = .ok (.iload_n 1, 1) := by decide +kernel
theorem dX0_takeInMessage_33 : decode cX0_takeInMessage 33 = .ok (.bipush 46, 2) := by decide +kernel
theorem dX0_takeInMessage_35 : decode cX0_takeInMessage 35 = .ok (.if_icmp .ne 50, 3) := by decide +kernel
theorem dX0_takeInMessage_38 : decode cX0_takeInMessage 38 = .ok (.aload_n 0, 1) := by decide +kernel
theorem dX0_takeInMessage_39 : decode cX0_takeInMessage 39 = .ok (.iconst 2, 1) := by decide +kernel
theorem dX0_takeInMessage_40 : decode cX0_takeInMessage 40 = .ok (.putfield 56, 3) := by decide +kernel
theorem dX0_takeInMessage_43 : decode cX0_takeInMessage 43 = .ok (.iconst 0, 1) := by decide +kernel
theorem dX0_takeInMessage_44 : decode cX0_takeInMessage 44 = .ok (.ireturn, 1) := by decide +kernel
theorem dX0_takeInMessage_45 : decode cX0_takeInMessage 45 = .ok (.iload_n 1, 1) := by decide +kernel
theorem dX0_takeInMessage_46 : decode cX0_takeInMessage 46 = .ok (.bipush 13, 2) := by decide +kernel
theorem dX0_takeInMessage_48 : decode cX0_takeInMessage 48 = .ok (.if_icmp .ne 37, 3) := by decide +kernel
theorem dX0_takeInMessage_51 : decode cX0_takeInMessage 51 = .ok (.aload_n 0, 1) := by decide +kernel
theorem dX0_takeInMessage_52 : decode cX0_takeInMessage 52 = .ok (.iconst 3, 1) := by decide +kernel
theorem dX0_takeInMessage_53 : decode cX0_takeInMessage 53 = .ok (.putfield 56, 3) := by decide +kernel
theorem dX0_takeInMessage_56 : decode cX0_takeInMessage 56 = .ok (.iconst 0, 1) := by decide +kernel
theorem dX0_takeInMessage_57 : decode cX0_takeInMessage 57 = .ok (.ireturn, 1) := by decide +kernel
theorem dX0_takeInMessage_58 : decode cX0_takeInMessage 58 = .ok (.iload_n 1, 1) := by decide +kernel
theorem dX0_takeInMessage_59 : decode cX0_takeInMessage 59 = .ok (.bipush 10, 2) := by decide +kernel
theorem dX0_takeInMessage_61 : decode cX0_takeInMessage 61 = .ok (.if_icmp .ne 15, 3) := by decide +kernel
theorem dX0_takeInMessage_76 : decode cX0_takeInMessage 76 = .ok (.aload_n 0, 1) := by decide +kernel
theorem dX0_takeInMessage_77 : decode cX0_takeInMessage 77 = .ok (.bipush 13, 2) := by decide +kernel
theorem dX0_takeInMessage_79 : decode cX0_takeInMessage 79 = .ok (.invokevirtual 107, 3) := by decide +kernel
theorem dX0_takeInMessage_82 : decode cX0_takeInMessage 82 = .ok (.goto 3, 3) := by decide +kernel
theorem dX0_takeInMessage_64 : decode cX0_takeInMessage 64 = .ok (.aload_n 0, 1) := by decide +kernel
theorem dX0_takeInMessage_65 : decode cX0_takeInMessage 65 = .ok (.iconst 0, 1) := by decide +kernel
theorem dX0_takeInMessage_66 : decode cX0_takeInMessage 66 = .ok (.putfield 56, 3) := by decide +kernel
theorem dX0_takeInMessage_69 : decode cX0_takeInMessage 69 = .ok (.aload_n 0, 1) := by decide +kernel
theorem dX0_takeInMessage_70 : decode cX0_takeInMessage 70 = .ok (.iconst 0, 1) := by decide +kernel
theorem dX0_takeInMessage_71 : decode cX0_takeInMessage 71 = .ok (.putfield 49, 3) := by decide +kernel
theorem dX0_takeInMessage_74 : decode cX0_takeInMessage 74 = .ok (.iconst 2, 1) := by decide +kernel
theorem dX0_takeInMessage_75 : decode cX0_takeInMessage 75 = .ok (.ireturn, 1) := by decide +kernel
def fb_X0_takeInMessage_109  (x1 : Int32) (xs0 : Int32) (s : uS) : Option (uS × Int32) := if x1 = 13 then (some (wI (wI s 1042 8 xs0) 1042 9 1, (0 : Int32))) else (some (wI (wI s 1042 8 xs0) 1042 9 0, (0 : Int32)))
set_option maxRecDepth 100000 in
set_option maxHeartbeats 4000000 in
theorem xb_X0_takeInMessage_109 {l : Launch} {D : va_G} {A : Nat → ClassId} {B : Nat} {Z : State → Heap → Prop} {vF : Value} (uk : uK B Z vF)   {x1 : Int32} {xs0 : Int32} {s : uS} {r : (uS × Int32)}  (h : fb_X0_takeInMessage_109  x1 xs0 s = some r) : GU l D A B Z mX0_takeInMessage 2 (r.1, some (.int r.2)) s 109 [(0, .ref (B + 1042)), (1, .int x1)] [.int xs0, .ref (B + 1042)] := by
  unfold fb_X0_takeInMessage_109 at h
  refine uu_puti (ft := .int) (ci := 0) (N := 12) fX0_56 ptX0 (Or.inl rfl) (by decide) so_1042.is (by decide) (by decide) (by decide +kernel) rfl rfl dX0_takeInMessage_109 ?_
  refine uu_aload_n dX0_takeInMessage_112 rfl (List.mem_of_getElem? (i := 0) rfl) ?_
  refine uu_iload_n dX0_takeInMessage_113 rfl (List.mem_of_getElem? (i := 1) rfl) ?_
  refine uu_bipush (v := 13) dX0_takeInMessage_114 (by decide) ?_
  refine uu_icmp_ne (tgt := 123) dX0_takeInMessage_116 (by decide) (fun c1 => ?_) (fun c1 => ?_)
  · replace h := uu_neg c1 h
    refine uu_iconst (v := 0) dX0_takeInMessage_123 (by decide) ?_
    refine uu_puti (ft := .boolean) (ci := 0) (N := 12) fX0_49 ptX0 (Or.inl rfl) (by decide) so_1042.is (by decide) (by decide) (by decide +kernel) rfl rfl dX0_takeInMessage_124 ?_
    refine uu_iconst (v := 0) dX0_takeInMessage_127 (by decide) ?_
    have hr := Option.some.inj h
    subst hr
    exact uu_iret rfl dX0_takeInMessage_128
  · replace h := uu_pos c1 h
    refine uu_iconst (v := 1) dX0_takeInMessage_119 (by decide) ?_
    refine uu_goto (tgt := 124) dX0_takeInMessage_120 (by decide) ?_
    refine uu_puti (ft := .boolean) (ci := 0) (N := 12) fX0_49 ptX0 (Or.inl rfl) (by decide) so_1042.is (by decide) (by decide) (by decide +kernel) rfl rfl dX0_takeInMessage_124 ?_
    refine uu_iconst (v := 0) dX0_takeInMessage_127 (by decide) ?_
    have hr := Option.some.inj h
    subst hr
    exact uu_iret rfl dX0_takeInMessage_128
def fb_X0_takeInMessage_85  (x1 : Int32) (s : uS) : Option (uS × Int32) := (fn_X0_addToText x1 s).bind fun s1 => if x1 = 10 then (if (s1.I 1042 9) = 0 then (fb_X0_takeInMessage_109 x1 4 s1) else (fb_X0_takeInMessage_109 x1 1 s1)) else (fb_X0_takeInMessage_109 x1 4 s1)
set_option maxRecDepth 100000 in
set_option maxHeartbeats 4000000 in
theorem xb_X0_takeInMessage_85 {l : Launch} {D : va_G} {A : Nat → ClassId} {B : Nat} {Z : State → Heap → Prop} {vF : Value} (uk : uK B Z vF)   {x1 : Int32} {s : uS} {r : (uS × Int32)}  (h : fb_X0_takeInMessage_85  x1 s = some r) : GU l D A B Z mX0_takeInMessage 2 (r.1, some (.int r.2)) s 85 [(0, .ref (B + 1042)), (1, .int x1)] [] := by
  unfold fb_X0_takeInMessage_85 at h
  refine uu_aload_n dX0_takeInMessage_85 rfl (List.mem_of_getElem? (i := 0) rfl) ?_
  refine uu_iload_n dX0_takeInMessage_86 rfl (List.mem_of_getElem? (i := 1) rfl) ?_
  obtain ⟨s1, e2, h⟩ := uu_ob h
  refine uu_cv (d1 := 1) (k := 1042) (ci := 0) (T := TX0) (N := 12) (As := [.int x1]) (st := []) (st' := []) (xc_X0_addToText uk  e2) so_1042.is (by decide) rfl kX0_addToText lX0_107 sX0_addToText (by decide) (Nat.le_of_ble_eq_true rfl) dX0_takeInMessage_87 rfl ?_
  refine uu_aload_n dX0_takeInMessage_90 rfl (List.mem_of_getElem? (i := 0) rfl) ?_
  refine uu_iload_n dX0_takeInMessage_91 rfl (List.mem_of_getElem? (i := 1) rfl) ?_
  refine uu_bipush (v := 10) dX0_takeInMessage_92 (by decide) ?_
  refine uu_icmp_ne (tgt := 108) dX0_takeInMessage_94 (by decide) (fun c3 => ?_) (fun c3 => ?_)
  · replace h := uu_neg c3 h
    refine uu_iconst (v := 4) dX0_takeInMessage_108 (by decide) ?_
    exact xb_X0_takeInMessage_109 uk  h
  · replace h := uu_pos c3 h
    refine uu_aload_n dX0_takeInMessage_97 rfl (List.mem_of_getElem? (i := 0) rfl) ?_
    refine uu_geti (ci := 0) (N := 12) fX0_49 (by decide) so_1042.is (by decide) (by decide) dX0_takeInMessage_98 ?_
    refine uu_if_eq (tgt := 108) dX0_takeInMessage_101 (by decide) (fun c4 => ?_) (fun c4 => ?_)
    · replace h := uu_pos c4 h
      refine uu_iconst (v := 4) dX0_takeInMessage_108 (by decide) ?_
      exact xb_X0_takeInMessage_109 uk  h
    · replace h := uu_neg c4 h
      refine uu_iconst (v := 1) dX0_takeInMessage_104 (by decide) ?_
      refine uu_goto (tgt := 109) dX0_takeInMessage_105 (by decide) ?_
      exact xb_X0_takeInMessage_109 uk  h
def fn_X0_takeInMessage (x1 : Int32) (s : uS) : Option (uS × Int32) := if (s.I 1042 8) = 1 then (if x1 = 46 then (some (wI s 1042 8 2, (0 : Int32))) else (fb_X0_takeInMessage_85 x1 s)) else (if (s.I 1042 8) = 2 then (if x1 = 13 then (some (wI s 1042 8 3, (0 : Int32))) else (fb_X0_takeInMessage_85 x1 s)) else (if (s.I 1042 8) = 3 then (if x1 = 10 then (some (wI (wI s 1042 8 0) 1042 9 0, (2 : Int32))) else ((fn_X0_addToText 13 s).bind fun s4 => fb_X0_takeInMessage_85 x1 s4)) else (fb_X0_takeInMessage_85 x1 s)))
set_option maxRecDepth 100000 in
set_option maxHeartbeats 4000000 in
theorem xc_X0_takeInMessage {l : Launch} {D : va_G} {A : Nat → ClassId} {B : Nat} {Z : State → Heap → Prop} {vF : Value} (uk : uK B Z vF) {x1 : Int32} {s : uS} {r : (uS × Int32)}  (h : fn_X0_takeInMessage x1 s = some r) : CU l D A B Z 2 mX0_takeInMessage s [.ref (B + 1042), .int x1] (r.1, some (.int r.2)) := by
  unfold fn_X0_takeInMessage at h
  refine cu_of rfl uk.1.1 (Nat.le_of_ble_eq_true rfl) ?_
  show GU _ _ _ _ _ _ _ _ _ 0 [(0, .ref (B + 1042)), (1, .int x1)] []
  refine uu_aload_n dX0_takeInMessage_0 rfl (List.mem_of_getElem? (i := 0) rfl) ?_
  refine uu_geti (ci := 0) (N := 12) fX0_56 (by decide) so_1042.is (by decide) (by decide) dX0_takeInMessage_1 ?_
  by_cases c4_0 : (s.I 1042 8) = 1
  · replace h := uu_pos c4_0 h
    refine uu_tabE (tgt := 32) (off := 28) (v := 1) dX0_takeInMessage_4 c4_0 (by decide) (by decide) rfl (by decide) ?_
    refine uu_iload_n dX0_takeInMessage_32 rfl (List.mem_of_getElem? (i := 1) rfl) ?_
    refine uu_bipush (v := 46) dX0_takeInMessage_33 (by decide) ?_
    refine uu_icmp_ne (tgt := 85) dX0_takeInMessage_35 (by decide) (fun c1 => ?_) (fun c1 => ?_)
    · replace h := uu_neg c1 h
      exact xb_X0_takeInMessage_85 uk  h
    · replace h := uu_pos c1 h
      refine uu_aload_n dX0_takeInMessage_38 rfl (List.mem_of_getElem? (i := 0) rfl) ?_
      refine uu_iconst (v := 2) dX0_takeInMessage_39 (by decide) ?_
      refine uu_puti (ft := .int) (ci := 0) (N := 12) fX0_56 ptX0 (Or.inl rfl) (by decide) so_1042.is (by decide) (by decide) (by decide +kernel) rfl rfl dX0_takeInMessage_40 ?_
      refine uu_iconst (v := 0) dX0_takeInMessage_43 (by decide) ?_
      have hr := Option.some.inj h
      subst hr
      exact uu_iret rfl dX0_takeInMessage_44
  replace h := uu_neg c4_0 h
  by_cases c4_1 : (s.I 1042 8) = 2
  · replace h := uu_pos c4_1 h
    refine uu_tabE (tgt := 45) (off := 41) (v := 2) dX0_takeInMessage_4 c4_1 (by decide) (by decide) rfl (by decide) ?_
    refine uu_iload_n dX0_takeInMessage_45 rfl (List.mem_of_getElem? (i := 1) rfl) ?_
    refine uu_bipush (v := 13) dX0_takeInMessage_46 (by decide) ?_
    refine uu_icmp_ne (tgt := 85) dX0_takeInMessage_48 (by decide) (fun c2 => ?_) (fun c2 => ?_)
    · replace h := uu_neg c2 h
      exact xb_X0_takeInMessage_85 uk  h
    · replace h := uu_pos c2 h
      refine uu_aload_n dX0_takeInMessage_51 rfl (List.mem_of_getElem? (i := 0) rfl) ?_
      refine uu_iconst (v := 3) dX0_takeInMessage_52 (by decide) ?_
      refine uu_puti (ft := .int) (ci := 0) (N := 12) fX0_56 ptX0 (Or.inl rfl) (by decide) so_1042.is (by decide) (by decide) (by decide +kernel) rfl rfl dX0_takeInMessage_53 ?_
      refine uu_iconst (v := 0) dX0_takeInMessage_56 (by decide) ?_
      have hr := Option.some.inj h
      subst hr
      exact uu_iret rfl dX0_takeInMessage_57
  replace h := uu_neg c4_1 h
  by_cases c4_2 : (s.I 1042 8) = 3
  · replace h := uu_pos c4_2 h
    refine uu_tabE (tgt := 58) (off := 54) (v := 3) dX0_takeInMessage_4 c4_2 (by decide) (by decide) rfl (by decide) ?_
    refine uu_iload_n dX0_takeInMessage_58 rfl (List.mem_of_getElem? (i := 1) rfl) ?_
    refine uu_bipush (v := 10) dX0_takeInMessage_59 (by decide) ?_
    refine uu_icmp_ne (tgt := 76) dX0_takeInMessage_61 (by decide) (fun c3 => ?_) (fun c3 => ?_)
    · replace h := uu_neg c3 h
      refine uu_aload_n dX0_takeInMessage_76 rfl (List.mem_of_getElem? (i := 0) rfl) ?_
      refine uu_bipush (v := 13) dX0_takeInMessage_77 (by decide) ?_
      obtain ⟨s4, e5, h⟩ := uu_ob h
      refine uu_cv (d1 := 1) (k := 1042) (ci := 0) (T := TX0) (N := 12) (As := [.int 13]) (st := []) (st' := []) (xc_X0_addToText uk  e5) so_1042.is (by decide) rfl kX0_addToText lX0_107 sX0_addToText (by decide) (Nat.le_of_ble_eq_true rfl) dX0_takeInMessage_79 rfl ?_
      refine uu_goto (tgt := 85) dX0_takeInMessage_82 (by decide) ?_
      exact xb_X0_takeInMessage_85 uk  h
    · replace h := uu_pos c3 h
      refine uu_aload_n dX0_takeInMessage_64 rfl (List.mem_of_getElem? (i := 0) rfl) ?_
      refine uu_iconst (v := 0) dX0_takeInMessage_65 (by decide) ?_
      refine uu_puti (ft := .int) (ci := 0) (N := 12) fX0_56 ptX0 (Or.inl rfl) (by decide) so_1042.is (by decide) (by decide) (by decide +kernel) rfl rfl dX0_takeInMessage_66 ?_
      refine uu_aload_n dX0_takeInMessage_69 rfl (List.mem_of_getElem? (i := 0) rfl) ?_
      refine uu_iconst (v := 0) dX0_takeInMessage_70 (by decide) ?_
      refine uu_puti (ft := .boolean) (ci := 0) (N := 12) fX0_49 ptX0 (Or.inl rfl) (by decide) so_1042.is (by decide) (by decide) (by decide +kernel) rfl rfl dX0_takeInMessage_71 ?_
      refine uu_iconst (v := 2) dX0_takeInMessage_74 (by decide) ?_
      have hr := Option.some.inj h
      subst hr
      exact uu_iret rfl dX0_takeInMessage_75
  replace h := uu_neg c4_2 h
  have cx4 : (s.I 1042 8).toInt < 1 ∨ 3 < (s.I 1042 8).toInt := by
    refine Decidable.byContradiction fun q => ?_
    rcases (show (s.I 1042 8).toInt = 1 ∨ (s.I 1042 8).toInt = 2 ∨ (s.I 1042 8).toInt = 3 by omega) with q | q | q
    · exact c4_0 (sw_eq q (by decide))
    · exact c4_1 (sw_eq q (by decide))
    · exact c4_2 (sw_eq q (by decide))
  refine uu_tableOut (tgt := 85) dX0_takeInMessage_4 cx4 (by decide) ?_
  exact xb_X0_takeInMessage_85 uk  h
theorem dX0_take_0 : decode cX0_take 0 = .ok (.aload_n 0, 1) := by decide +kernel
theorem dX0_take_1 : decode cX0_take 1 = .ok (.getfield 35, 3) := by decide +kernel
theorem dX0_take_4 : decode cX0_take 4 = .ok (.ifCond .ne 5, 3) := by decide +kernel
theorem dX0_take_9 : decode cX0_take 9 = .ok (.aload_n 0, 1) := by decide +kernel
theorem dX0_take_10 : decode cX0_take 10 = .ok (.getfield 56, 3) := by decide +kernel
theorem dX0_take_13 : decode cX0_take 13 = .ok (.ifCond .ne 11, 3) := by decide +kernel
theorem dX0_take_24 : decode cX0_take 24 = .ok (.aload_n 0, 1) := by decide +kernel
theorem dX0_take_25 : decode cX0_take 25 = .ok (.iload_n 1, 1) := by decide +kernel
theorem kX0_takeInMessage : h_ml mX0_takeInMessage 1 := ⟨h_t3 188 rfl rfl, h_t1 13 rfl rfl, ⟨by decide, by decide, by decide +kernel⟩, by decide⟩
theorem lX0_101 : Cond.methodLink RX0 101 mX0_takeInMessage.1 ∈ lw_g := h_t3 185 rfl rfl
theorem sX0_takeInMessage : Cond.instanceMethod mX0_takeInMessage.1 ∈ lw_g ∧ Cond.selects mX0_takeInMessage.1.cls mX0_takeInMessage.1 mX0_takeInMessage.1 ∈ lw_g := ⟨h_t3 187 rfl rfl, h_ins 2 rfl⟩
theorem dX0_take_26 : decode cX0_take 26 = .ok (.invokevirtual 101, 3) := by decide +kernel
theorem dX0_take_29 : decode cX0_take 29 = .ok (.ireturn, 1) := by decide +kernel
theorem dX0_take_16 : decode cX0_take 16 = .ok (.aload_n 0, 1) := by decide +kernel
theorem dX0_take_17 : decode cX0_take 17 = .ok (.iload_n 1, 1) := by decide +kernel
theorem kX0_takeInCommands : h_ml mX0_takeInCommands 1 := ⟨h_t3 181 rfl rfl, h_t1 13 rfl rfl, ⟨by decide, by decide, by decide +kernel⟩, by decide⟩
theorem lX0_97 : Cond.methodLink RX0 97 mX0_takeInCommands.1 ∈ lw_g := h_t3 178 rfl rfl
theorem sX0_takeInCommands : Cond.instanceMethod mX0_takeInCommands.1 ∈ lw_g ∧ Cond.selects mX0_takeInCommands.1.cls mX0_takeInCommands.1 mX0_takeInCommands.1 ∈ lw_g := ⟨h_t3 180 rfl rfl, h_ins 1 rfl⟩
theorem dX0_take_18 : decode cX0_take 18 = .ok (.invokevirtual 97, 3) := by decide +kernel
theorem dX0_take_21 : decode cX0_take 21 = .ok (.goto 8, 3) := by decide +kernel
theorem dX0_take_7 : decode cX0_take 7 = .ok (.iconst 0, 1) := by decide +kernel
theorem dX0_take_8 : decode cX0_take 8 = .ok (.ireturn, 1) := by decide +kernel
def fn_X0_take (x1 : Int32) (s : uS) : Option (uS × Int32) := if (s.I 1042 4) = 0 then (some (s, (0 : Int32))) else (if (s.I 1042 8) = 0 then ((fn_X0_takeInCommands x1 s).bind fun r5 => some (r5.1, r5.2)) else ((fn_X0_takeInMessage x1 s).bind fun r3 => some (r3.1, r3.2)))
set_option maxRecDepth 100000 in
set_option maxHeartbeats 4000000 in
theorem xc_X0_take {l : Launch} {D : va_G} {A : Nat → ClassId} {B : Nat} {Z : State → Heap → Prop} {vF : Value} (uk : uK B Z vF) {x1 : Int32} {s : uS} {r : (uS × Int32)}  (h : fn_X0_take x1 s = some r) : CU l D A B Z 3 mX0_take s [.ref (B + 1042), .int x1] (r.1, some (.int r.2)) := by
  unfold fn_X0_take at h
  refine cu_of rfl uk.1.1 (Nat.le_of_ble_eq_true rfl) ?_
  show GU _ _ _ _ _ _ _ _ _ 0 [(0, .ref (B + 1042)), (1, .int x1)] []
  refine uu_aload_n dX0_take_0 rfl (List.mem_of_getElem? (i := 0) rfl) ?_
  refine uu_geti (ci := 0) (N := 12) fX0_35 (by decide) so_1042.is (by decide) (by decide) dX0_take_1 ?_
  refine uu_if_ne (tgt := 9) dX0_take_4 (by decide) (fun c1 => ?_) (fun c1 => ?_)
  · replace h := uu_neg c1 h
    refine uu_aload_n dX0_take_9 rfl (List.mem_of_getElem? (i := 0) rfl) ?_
    refine uu_geti (ci := 0) (N := 12) fX0_56 (by decide) so_1042.is (by decide) (by decide) dX0_take_10 ?_
    refine uu_if_ne (tgt := 24) dX0_take_13 (by decide) (fun c2 => ?_) (fun c2 => ?_)
    · replace h := uu_neg c2 h
      refine uu_aload_n dX0_take_24 rfl (List.mem_of_getElem? (i := 0) rfl) ?_
      refine uu_iload_n dX0_take_25 rfl (List.mem_of_getElem? (i := 1) rfl) ?_
      obtain ⟨r3, e4, h⟩ := uu_ob h
      refine uu_cv (d1 := 2) (k := 1042) (ci := 0) (T := TX0) (N := 12) (As := [.int x1]) (st := []) (st' := [.int r3.2]) (xc_X0_takeInMessage uk  e4) so_1042.is (by decide) rfl kX0_takeInMessage lX0_101 sX0_takeInMessage (by decide) (Nat.le_of_ble_eq_true rfl) dX0_take_26 rfl ?_
      have hr := Option.some.inj h
      subst hr
      exact uu_iret rfl dX0_take_29
    · replace h := uu_pos c2 h
      refine uu_aload_n dX0_take_16 rfl (List.mem_of_getElem? (i := 0) rfl) ?_
      refine uu_iload_n dX0_take_17 rfl (List.mem_of_getElem? (i := 1) rfl) ?_
      obtain ⟨r5, e6, h⟩ := uu_ob h
      refine uu_cv (d1 := 1) (k := 1042) (ci := 0) (T := TX0) (N := 12) (As := [.int x1]) (st := []) (st' := [.int r5.2]) (xc_X0_takeInCommands uk  e6) so_1042.is (by decide) rfl kX0_takeInCommands lX0_97 sX0_takeInCommands (by decide) (Nat.le_of_ble_eq_true rfl) dX0_take_18 rfl ?_
      refine uu_goto (tgt := 29) dX0_take_21 (by decide) ?_
      have hr := Option.some.inj h
      subst hr
      exact uu_iret rfl dX0_take_29
  · replace h := uu_pos c1 h
    refine uu_iconst (v := 0) dX0_take_7 (by decide) ?_
    have hr := Option.some.inj h
    subst hr
    exact uu_iret rfl dX0_take_8
abbrev mX9_find : hM := (yX9_find, cX9_find, 5, (some (.int)))
theorem dX9_find_3 : decode cX9_find 3 = .ok (.iload 4, 2) := by decide +kernel
theorem dX9_find_5 : decode cX9_find 5 = .ok (.iload_n 2, 1) := by decide +kernel
theorem dX9_find_6 : decode cX9_find 6 = .ok (.if_icmp .ge 20, 3) := by decide +kernel
theorem dX9_find_26 : decode cX9_find 26 = .ok (.iconst (-1), 1) := by decide +kernel
theorem dX9_find_27 : decode cX9_find 27 = .ok (.ireturn, 1) := by decide +kernel
theorem dX9_find_9 : decode cX9_find 9 = .ok (.aload_n 0, 1) := by decide +kernel
theorem dX9_find_10 : decode cX9_find 10 = .ok (.iload 4, 2) := by decide +kernel
theorem dX9_find_12 : decode cX9_find 12 = .ok (.baload, 1) := by decide +kernel
theorem dX9_find_13 : decode cX9_find 13 = .ok (.iload_n 3, 1) := by decide +kernel
theorem dX9_find_14 : decode cX9_find 14 = .ok (.if_icmp .ne 6, 3) := by decide +kernel
theorem dX9_find_20 : decode cX9_find 20 = .ok (.iinc 4 1, 3) := by decide +kernel
theorem dX9_find_23 : decode cX9_find 23 = .ok (.goto (-20), 3) := by decide +kernel
theorem dX9_find_17 : decode cX9_find 17 = .ok (.iload 4, 2) := by decide +kernel
theorem dX9_find_19 : decode cX9_find 19 = .ok (.ireturn, 1) := by decide +kernel
theorem dX9_find_0 : decode cX9_find 0 = .ok (.iload_n 1, 1) := by decide +kernel
theorem dX9_find_1 : decode cX9_find 1 = .ok (.istore 4, 2) := by decide +kernel
def fb_X9_find_3 (K3 : Nat → Int32 → Int32 → Int32 → uS → Option Int32) (k0 : Nat) (x2 : Int32) (x3 : Int32) (x4 : Int32) (s : uS) : Option Int32 := if x2 ≤ x4 then (some (-1 : Int32)) else ((iget 21 s k0 x4).bind fun v2 => if v2 = x3 then (some x4) else (K3 k0 x2 x3 (x4 + 1) s))
set_option maxRecDepth 100000 in
set_option maxHeartbeats 4000000 in
theorem xb_X9_find_3 {l : Launch} {D : va_G} {A : Nat → ClassId} {B : Nat} {Z : State → Heap → Prop} {vF : Value} (uk : uK B Z vF) {K3 : Nat → Int32 → Int32 → Int32 → uS → Option Int32} (hK3 : ∀ (k0 : Nat) (x2 : Int32) (x3 : Int32) (x4 : Int32)  (s : uS) (r : Int32), K3 k0 x2 x3 x4 s = some r → GU l D A B Z mX9_find 0 (s, some (.int r)) s 3 [(0, .ref (B + k0)), (2, .int x2), (3, .int x3), (4, .int x4)] []) {k0 : Nat} {x2 : Int32} {x3 : Int32} {x4 : Int32} {s : uS} {r : Int32}  (h : fb_X9_find_3 K3 k0 x2 x3 x4 s = some r) : GU l D A B Z mX9_find 0 (s, some (.int r)) s 3 [(0, .ref (B + k0)), (2, .int x2), (3, .int x3), (4, .int x4)] [] := by
  unfold fb_X9_find_3 at h
  refine uu_iload dX9_find_3 (List.mem_of_getElem? (i := 3) rfl) ?_
  refine uu_iload_n dX9_find_5 rfl (List.mem_of_getElem? (i := 1) rfl) ?_
  refine uu_icmp_ge (tgt := 26) dX9_find_6 (by decide) (fun c1 => ?_) (fun c1 => ?_)
  · replace h := uu_pos c1 h
    refine uu_iconst (v := -1) dX9_find_26 (by decide) ?_
    have hr := Option.some.inj h
    subst hr
    exact uu_iret rfl dX9_find_27
  · replace h := uu_neg c1 h
    refine uu_aload_n dX9_find_9 rfl (List.mem_of_getElem? (i := 0) rfl) ?_
    refine uu_iload dX9_find_10 (List.mem_of_getElem? (i := 3) rfl) ?_
    obtain ⟨v2, e3, h⟩ := uu_ob h
    refine uu_bald e3 dX9_find_12 ?_
    refine uu_iload_n dX9_find_13 rfl (List.mem_of_getElem? (i := 2) rfl) ?_
    refine uu_icmp_ne (tgt := 20) dX9_find_14 (by decide) (fun c4 => ?_) (fun c4 => ?_)
    · replace h := uu_neg c4 h
      refine uu_iinc (v := x4 + 1) dX9_find_20 (k := 3) rfl rfl (by decide) rfl ?_
      refine uu_goto (tgt := 3) dX9_find_23 (by decide) ?_
      refine uu_lv [1, 2, 3, 0] (lv' := [(0, .ref (B + k0)), (2, .int x2), (3, .int x3), (4, .int (x4 + 1))]) rfl ?_
      exact hK3 k0 x2 x3 (x4 + 1) _ _ h
    · replace h := uu_pos c4 h
      refine uu_iload dX9_find_17 (List.mem_of_getElem? (i := 3) rfl) ?_
      have hr := Option.some.inj h
      subst hr
      exact uu_iret rfl dX9_find_19
def fn_X9_find_3  : Nat → Nat → Int32 → Int32 → Int32 → uS → Option Int32
  | 0 => fun _ _ _ _ _ => none
  | n + 1 => fb_X9_find_3 (fn_X9_find_3  n)
set_option maxRecDepth 100000 in
set_option maxHeartbeats 4000000 in
theorem xn_X9_find_3 {l : Launch} {D : va_G} {A : Nat → ClassId} {B : Nat} {Z : State → Heap → Prop} {vF : Value} (uk : uK B Z vF)   : ∀ (n : Nat) (k0 : Nat) (x2 : Int32) (x3 : Int32) (x4 : Int32)  (s : uS) (r : Int32), fn_X9_find_3  n k0 x2 x3 x4 s = some r → GU l D A B Z mX9_find 0 (s, some (.int r)) s 3 [(0, .ref (B + k0)), (2, .int x2), (3, .int x3), (4, .int x4)] [] := by
  intro n
  induction n with
  | zero => intro k0 x2 x3 x4 s r h
            cases h
  | succ n ih => intro k0 x2 x3 x4 s r h
                 exact xb_X9_find_3 uk ih  h
def fn_X9_find (k0 : Nat) (x1 : Int32) (x2 : Int32) (x3 : Int32) (s : uS) : Option Int32 := fn_X9_find_3 uFu k0 x2 x3 x1 s
set_option maxRecDepth 100000 in
set_option maxHeartbeats 4000000 in
theorem xc_X9_find {l : Launch} {D : va_G} {A : Nat → ClassId} {B : Nat} {Z : State → Heap → Prop} {vF : Value} (uk : uK B Z vF) {k0 : Nat} {x1 : Int32} {x2 : Int32} {x3 : Int32} {s : uS} {r : Int32}  (h : fn_X9_find k0 x1 x2 x3 s = some r) : CU l D A B Z 0 mX9_find s [.ref (B + k0), .int x1, .int x2, .int x3] (s, some (.int r)) := by
  unfold fn_X9_find at h
  refine cu_of rfl uk.1.1 (Nat.le_of_ble_eq_true rfl) ?_
  show GU _ _ _ _ _ _ _ _ _ 0 [(0, .ref (B + k0)), (1, .int x1), (2, .int x2), (3, .int x3)] []
  refine uu_iload_n dX9_find_0 rfl (List.mem_of_getElem? (i := 1) rfl) ?_
  refine uu_istore dX9_find_1 (by decide) rfl ?_
  refine uu_lv [1, 3, 4, 0] (lv' := [(0, .ref (B + k0)), (2, .int x2), (3, .int x3), (4, .int x1)]) rfl ?_
  exact xn_X9_find_3 uk  _ _ _ _ _ _ _ h
abbrev mX0_answerData : hM := (yX0_answerData, cX0_answerData, 1, none)
theorem dX0_answerData_0 : decode cX0_answerData 0 = .ok (.aload_n 0, 1) := by decide +kernel
theorem dX0_answerData_1 : decode cX0_answerData 1 = .ok (.getfield 18, 3) := by decide +kernel
theorem fX0_167 : h_fl RX0 167 9 3 RX9 TX9 6 := ⟨rfl, by decide, inX9, h_t1 84 rfl rfl⟩
theorem dX0_answerData_4 : decode cX0_answerData 4 = .ok (.getfield 167, 3) := by decide +kernel
theorem dX0_answerData_7 : decode cX0_answerData 7 = .ok (.ifCond .ne 13, 3) := by decide +kernel
theorem dX0_answerData_20 : decode cX0_answerData 20 = .ok (.aload_n 0, 1) := by decide +kernel
theorem dX0_answerData_21 : decode cX0_answerData 21 = .ok (.iconst 1, 1) := by decide +kernel
theorem dX0_answerData_22 : decode cX0_answerData 22 = .ok (.putfield 56, 3) := by decide +kernel
theorem dX0_answerData_25 : decode cX0_answerData 25 = .ok (.aload_n 0, 1) := by decide +kernel
theorem dX0_answerData_26 : decode cX0_answerData 26 = .ok (.iconst 0, 1) := by decide +kernel
theorem dX0_answerData_27 : decode cX0_answerData 27 = .ok (.putfield 62, 3) := by decide +kernel
theorem dX0_answerData_30 : decode cX0_answerData 30 = .ok (.aload_n 0, 1) := by decide +kernel
theorem dX0_answerData_31 : decode cX0_answerData 31 = .ok (.getfield 28, 3) := by decide +kernel
theorem dX0_answerData_34 : decode cX0_answerData 34 = .ok (.ldc 196, 2) := by decide +kernel
theorem dX0_answerData_36 : decode cX0_answerData 36 = .ok (.invokevirtual 41, 3) := by decide +kernel
theorem dX0_answerData_39 : decode cX0_answerData 39 = .ok (.return_, 1) := by decide +kernel
theorem dX0_answerData_10 : decode cX0_answerData 10 = .ok (.aload_n 0, 1) := by decide +kernel
theorem dX0_answerData_11 : decode cX0_answerData 11 = .ok (.getfield 28, 3) := by decide +kernel
theorem dX0_answerData_14 : decode cX0_answerData 14 = .ok (.ldc 125, 2) := by decide +kernel
theorem dX0_answerData_16 : decode cX0_answerData 16 = .ok (.invokevirtual 41, 3) := by decide +kernel
theorem dX0_answerData_19 : decode cX0_answerData 19 = .ok (.return_, 1) := by decide +kernel
def fn_X0_answerData  (s : uS) : Option uS := if (s.I 1047 3) = 0 then ((fn_X5_line 1040 kW_17 s).bind fun s6 => some s6) else ((fn_X5_line 1040 kW_31 (wI (wI s 1042 8 1) 1042 3 0)).bind fun s3 => some s3)
set_option maxRecDepth 100000 in
set_option maxHeartbeats 4000000 in
theorem xc_X0_answerData {l : Launch} {D : va_G} {A : Nat → ClassId} {B : Nat} {Z : State → Heap → Prop} {vF : Value} (uk : uK B Z vF)  {s : uS} {r : uS}  (h : fn_X0_answerData  s = some r) : CU l D A B Z 6 mX0_answerData s [.ref (B + 1042)] (r, none) := by
  unfold fn_X0_answerData at h
  refine cu_of rfl uk.1.1 (Nat.le_of_ble_eq_true rfl) ?_
  show GU _ _ _ _ _ _ _ _ _ 0 [(0, .ref (B + 1042))] []
  refine uu_aload_n dX0_answerData_0 rfl (List.mem_of_getElem? (i := 0) rfl) ?_
  refine uu_geta (ci := 0) (N := 12) fX0_18 (by decide) so_1042.is (by decide) (c := 1047) (by decide) dX0_answerData_1 ?_
  refine uu_geti (ci := 9) (N := 6) fX0_167 (by decide) so_1047.is (by decide) (by decide) dX0_answerData_4 ?_
  refine uu_if_ne (tgt := 20) dX0_answerData_7 (by decide) (fun c1 => ?_) (fun c1 => ?_)
  · replace h := uu_neg c1 h
    refine uu_aload_n dX0_answerData_20 rfl (List.mem_of_getElem? (i := 0) rfl) ?_
    refine uu_iconst (v := 1) dX0_answerData_21 (by decide) ?_
    refine uu_puti (ft := .int) (ci := 0) (N := 12) fX0_56 ptX0 (Or.inl rfl) (by decide) so_1042.is (by decide) (by decide) (by decide +kernel) rfl rfl dX0_answerData_22 ?_
    refine uu_aload_n dX0_answerData_25 rfl (List.mem_of_getElem? (i := 0) rfl) ?_
    refine uu_iconst (v := 0) dX0_answerData_26 (by decide) ?_
    refine uu_puti (ft := .int) (ci := 0) (N := 12) fX0_62 ptX0 (Or.inl rfl) (by decide) so_1042.is (by decide) (by decide) (by decide +kernel) rfl rfl dX0_answerData_27 ?_
    refine uu_aload_n dX0_answerData_30 rfl (List.mem_of_getElem? (i := 0) rfl) ?_
    refine uu_geta (ci := 0) (N := 12) fX0_28 (by decide) so_1042.is (by decide) (c := 1040) (by decide) dX0_answerData_31 ?_
    obtain ⟨cq2, cp2, cv2, cw2⟩ := uk.2.1 31 _ rfl
    refine uu_ldcS cv2 dX0_answerData_34 ?_
    obtain ⟨s3, e4, h⟩ := uu_ob h
    refine uu_cv (d1 := 5) (k := 1040) (ci := 5) (T := TX5) (N := 3) (As := [.ref cq2]) (st := []) (st' := []) (xc_X5_line uk so_1040 cw2 e4) so_1040.is (by decide) rfl kX5_line lX0_41 sX5_line (by decide) (Nat.le_of_ble_eq_true rfl) dX0_answerData_36 rfl ?_
    have hr := Option.some.inj h
    subst hr
    exact uu_vret rfl dX0_answerData_39
  · replace h := uu_pos c1 h
    refine uu_aload_n dX0_answerData_10 rfl (List.mem_of_getElem? (i := 0) rfl) ?_
    refine uu_geta (ci := 0) (N := 12) fX0_28 (by decide) so_1042.is (by decide) (c := 1040) (by decide) dX0_answerData_11 ?_
    obtain ⟨cq5, cp5, cv5, cw5⟩ := uk.2.1 17 _ rfl
    refine uu_ldcS cv5 dX0_answerData_14 ?_
    obtain ⟨s6, e7, h⟩ := uu_ob h
    refine uu_cv (d1 := 5) (k := 1040) (ci := 5) (T := TX5) (N := 3) (As := [.ref cq5]) (st := []) (st' := []) (xc_X5_line uk so_1040 cw5 e7) so_1040.is (by decide) rfl kX5_line lX0_41 sX5_line (by decide) (Nat.le_of_ble_eq_true rfl) dX0_answerData_16 rfl ?_
    have hr := Option.some.inj h
    subst hr
    exact uu_vret rfl dX0_answerData_19
abbrev mX0_answerBareWord : hM := (yX0_answerBareWord, cX0_answerBareWord, 2, none)
theorem dX0_answerBareWord_0 : decode cX0_answerBareWord 0 = .ok (.iload_n 1, 1) := by decide +kernel
theorem dX0_answerBareWord_1 : decode cX0_answerBareWord 1 = .ok (.iconst 3, 1) := by decide +kernel
theorem dX0_answerBareWord_2 : decode cX0_answerBareWord 2 = .ok (.if_icmp .ne 10, 3) := by decide +kernel
theorem dX0_answerBareWord_12 : decode cX0_answerBareWord 12 = .ok (.iload_n 1, 1) := by decide +kernel
theorem dX0_answerBareWord_13 : decode cX0_answerBareWord 13 = .ok (.iconst 4, 1) := by decide +kernel
theorem dX0_answerBareWord_14 : decode cX0_answerBareWord 14 = .ok (.if_icmp .ne 19, 3) := by decide +kernel
theorem dX0_answerBareWord_33 : decode cX0_answerBareWord 33 = .ok (.iload_n 1, 1) := by decide +kernel
theorem dX0_answerBareWord_34 : decode cX0_answerBareWord 34 = .ok (.iconst 5, 1) := by decide +kernel
theorem dX0_answerBareWord_35 : decode cX0_answerBareWord 35 = .ok (.if_icmp .ne 15, 3) := by decide +kernel
theorem dX0_answerBareWord_50 : decode cX0_answerBareWord 50 = .ok (.aload_n 0, 1) := by decide +kernel
theorem dX0_answerBareWord_51 : decode cX0_answerBareWord 51 = .ok (.invokevirtual 32, 3) := by decide +kernel
theorem dX0_answerBareWord_54 : decode cX0_answerBareWord 54 = .ok (.aload_n 0, 1) := by decide +kernel
theorem dX0_answerBareWord_55 : decode cX0_answerBareWord 55 = .ok (.getfield 28, 3) := by decide +kernel
theorem dX0_answerBareWord_58 : decode cX0_answerBareWord 58 = .ok (.ldc 194, 2) := by decide +kernel
theorem dX0_answerBareWord_60 : decode cX0_answerBareWord 60 = .ok (.invokevirtual 41, 3) := by decide +kernel
theorem dX0_answerBareWord_63 : decode cX0_answerBareWord 63 = .ok (.return_, 1) := by decide +kernel
theorem dX0_answerBareWord_38 : decode cX0_answerBareWord 38 = .ok (.aload_n 0, 1) := by decide +kernel
theorem dX0_answerBareWord_39 : decode cX0_answerBareWord 39 = .ok (.getfield 28, 3) := by decide +kernel
theorem dX0_answerBareWord_42 : decode cX0_answerBareWord 42 = .ok (.ldc 192, 2) := by decide +kernel
theorem dX0_answerBareWord_44 : decode cX0_answerBareWord 44 = .ok (.invokevirtual 41, 3) := by decide +kernel
theorem dX0_answerBareWord_47 : decode cX0_answerBareWord 47 = .ok (.goto 16, 3) := by decide +kernel
theorem dX0_answerBareWord_17 : decode cX0_answerBareWord 17 = .ok (.aload_n 0, 1) := by decide +kernel
theorem kX0_forget : h_ml mX0_forget 0 := ⟨h_t4 42 rfl rfl, h_t1 13 rfl rfl, ⟨by decide, by decide, by decide +kernel⟩, by decide⟩
theorem lX0_145 : Cond.methodLink RX0 145 mX0_forget.1 ∈ lw_g := h_t4 39 rfl rfl
theorem sX0_forget : Cond.instanceMethod mX0_forget.1 ∈ lw_g ∧ Cond.selects mX0_forget.1.cls mX0_forget.1 mX0_forget.1 ∈ lw_g := ⟨h_t4 40 rfl rfl, h_t4 41 rfl rfl⟩
theorem dX0_answerBareWord_18 : decode cX0_answerBareWord 18 = .ok (.invokevirtual 145, 3) := by decide +kernel
theorem dX0_answerBareWord_21 : decode cX0_answerBareWord 21 = .ok (.aload_n 0, 1) := by decide +kernel
theorem dX0_answerBareWord_22 : decode cX0_answerBareWord 22 = .ok (.getfield 28, 3) := by decide +kernel
theorem dX0_answerBareWord_25 : decode cX0_answerBareWord 25 = .ok (.ldc 192, 2) := by decide +kernel
theorem dX0_answerBareWord_27 : decode cX0_answerBareWord 27 = .ok (.invokevirtual 41, 3) := by decide +kernel
theorem dX0_answerBareWord_30 : decode cX0_answerBareWord 30 = .ok (.goto 33, 3) := by decide +kernel
theorem dX0_answerBareWord_5 : decode cX0_answerBareWord 5 = .ok (.aload_n 0, 1) := by decide +kernel
theorem kX0_answerData : h_ml mX0_answerData 0 := ⟨h_t4 105 rfl rfl, h_t1 13 rfl rfl, ⟨by decide, by decide, by decide +kernel⟩, by decide⟩
theorem lX0_189 : Cond.methodLink RX0 189 mX0_answerData.1 ∈ lw_g := h_t4 102 rfl rfl
theorem sX0_answerData : Cond.instanceMethod mX0_answerData.1 ∈ lw_g ∧ Cond.selects mX0_answerData.1.cls mX0_answerData.1 mX0_answerData.1 ∈ lw_g := ⟨h_t4 104 rfl rfl, h_ins 12 rfl⟩
theorem dX0_answerBareWord_6 : decode cX0_answerBareWord 6 = .ok (.invokevirtual 189, 3) := by decide +kernel
theorem dX0_answerBareWord_9 : decode cX0_answerBareWord 9 = .ok (.goto 54, 3) := by decide +kernel
def fn_X0_answerBareWord (x1 : Int32) (s : uS) : Option uS := if x1 = 3 then ((fn_X0_answerData s).bind fun s17 => some s17) else (if x1 = 4 then ((fn_X0_forget s).bind fun s12 => (fn_X5_line 1040 kW_29 s12).bind fun s15 => some s15) else (if x1 = 5 then ((fn_X5_line 1040 kW_29 s).bind fun s10 => some s10) else ((fn_X0_close s).bind fun s4 => (fn_X5_line 1040 kW_30 s4).bind fun s7 => some s7)))
set_option maxRecDepth 100000 in
set_option maxHeartbeats 4000000 in
theorem xc_X0_answerBareWord {l : Launch} {D : va_G} {A : Nat → ClassId} {B : Nat} {Z : State → Heap → Prop} {vF : Value} (uk : uK B Z vF) {x1 : Int32} {s : uS} {r : uS}  (h : fn_X0_answerBareWord x1 s = some r) : CU l D A B Z 7 mX0_answerBareWord s [.ref (B + 1042), .int x1] (r, none) := by
  unfold fn_X0_answerBareWord at h
  refine cu_of rfl uk.1.1 (Nat.le_of_ble_eq_true rfl) ?_
  show GU _ _ _ _ _ _ _ _ _ 0 [(0, .ref (B + 1042)), (1, .int x1)] []
  refine uu_iload_n dX0_answerBareWord_0 rfl (List.mem_of_getElem? (i := 1) rfl) ?_
  refine uu_iconst (v := 3) dX0_answerBareWord_1 (by decide) ?_
  refine uu_icmp_ne (tgt := 12) dX0_answerBareWord_2 (by decide) (fun c1 => ?_) (fun c1 => ?_)
  · replace h := uu_neg c1 h
    refine uu_iload_n dX0_answerBareWord_12 rfl (List.mem_of_getElem? (i := 1) rfl) ?_
    refine uu_iconst (v := 4) dX0_answerBareWord_13 (by decide) ?_
    refine uu_icmp_ne (tgt := 33) dX0_answerBareWord_14 (by decide) (fun c2 => ?_) (fun c2 => ?_)
    · replace h := uu_neg c2 h
      refine uu_iload_n dX0_answerBareWord_33 rfl (List.mem_of_getElem? (i := 1) rfl) ?_
      refine uu_iconst (v := 5) dX0_answerBareWord_34 (by decide) ?_
      refine uu_icmp_ne (tgt := 50) dX0_answerBareWord_35 (by decide) (fun c3 => ?_) (fun c3 => ?_)
      · replace h := uu_neg c3 h
        refine uu_aload_n dX0_answerBareWord_50 rfl (List.mem_of_getElem? (i := 0) rfl) ?_
        obtain ⟨s4, e5, h⟩ := uu_ob h
        refine uu_cv (d1 := 1) (k := 1042) (ci := 0) (T := TX0) (N := 12) (As := []) (st := []) (st' := []) (xc_X0_close uk  e5) so_1042.is (by decide) rfl kX0_close lX0_32 sX0_close (by decide) (Nat.le_of_ble_eq_true rfl) dX0_answerBareWord_51 rfl ?_
        refine uu_aload_n dX0_answerBareWord_54 rfl (List.mem_of_getElem? (i := 0) rfl) ?_
        refine uu_geta (ci := 0) (N := 12) fX0_28 (by decide) so_1042.is (by decide) (c := 1040) (by decide) dX0_answerBareWord_55 ?_
        obtain ⟨cq6, cp6, cv6, cw6⟩ := uk.2.1 30 _ rfl
        refine uu_ldcS cv6 dX0_answerBareWord_58 ?_
        obtain ⟨s7, e8, h⟩ := uu_ob h
        refine uu_cv (d1 := 5) (k := 1040) (ci := 5) (T := TX5) (N := 3) (As := [.ref cq6]) (st := []) (st' := []) (xc_X5_line uk so_1040 cw6 e8) so_1040.is (by decide) rfl kX5_line lX0_41 sX5_line (by decide) (Nat.le_of_ble_eq_true rfl) dX0_answerBareWord_60 rfl ?_
        have hr := Option.some.inj h
        subst hr
        exact uu_vret rfl dX0_answerBareWord_63
      · replace h := uu_pos c3 h
        refine uu_aload_n dX0_answerBareWord_38 rfl (List.mem_of_getElem? (i := 0) rfl) ?_
        refine uu_geta (ci := 0) (N := 12) fX0_28 (by decide) so_1042.is (by decide) (c := 1040) (by decide) dX0_answerBareWord_39 ?_
        obtain ⟨cq9, cp9, cv9, cw9⟩ := uk.2.1 29 _ rfl
        refine uu_ldcS cv9 dX0_answerBareWord_42 ?_
        obtain ⟨s10, e11, h⟩ := uu_ob h
        refine uu_cv (d1 := 5) (k := 1040) (ci := 5) (T := TX5) (N := 3) (As := [.ref cq9]) (st := []) (st' := []) (xc_X5_line uk so_1040 cw9 e11) so_1040.is (by decide) rfl kX5_line lX0_41 sX5_line (by decide) (Nat.le_of_ble_eq_true rfl) dX0_answerBareWord_44 rfl ?_
        refine uu_goto (tgt := 63) dX0_answerBareWord_47 (by decide) ?_
        have hr := Option.some.inj h
        subst hr
        exact uu_vret rfl dX0_answerBareWord_63
    · replace h := uu_pos c2 h
      refine uu_aload_n dX0_answerBareWord_17 rfl (List.mem_of_getElem? (i := 0) rfl) ?_
      obtain ⟨s12, e13, h⟩ := uu_ob h
      refine uu_cv (d1 := 1) (k := 1042) (ci := 0) (T := TX0) (N := 12) (As := []) (st := []) (st' := []) (xc_X0_forget uk  e13) so_1042.is (by decide) rfl kX0_forget lX0_145 sX0_forget (by decide) (Nat.le_of_ble_eq_true rfl) dX0_answerBareWord_18 rfl ?_
      refine uu_aload_n dX0_answerBareWord_21 rfl (List.mem_of_getElem? (i := 0) rfl) ?_
      refine uu_geta (ci := 0) (N := 12) fX0_28 (by decide) so_1042.is (by decide) (c := 1040) (by decide) dX0_answerBareWord_22 ?_
      obtain ⟨cq14, cp14, cv14, cw14⟩ := uk.2.1 29 _ rfl
      refine uu_ldcS cv14 dX0_answerBareWord_25 ?_
      obtain ⟨s15, e16, h⟩ := uu_ob h
      refine uu_cv (d1 := 5) (k := 1040) (ci := 5) (T := TX5) (N := 3) (As := [.ref cq14]) (st := []) (st' := []) (xc_X5_line uk so_1040 cw14 e16) so_1040.is (by decide) rfl kX5_line lX0_41 sX5_line (by decide) (Nat.le_of_ble_eq_true rfl) dX0_answerBareWord_27 rfl ?_
      refine uu_goto (tgt := 63) dX0_answerBareWord_30 (by decide) ?_
      have hr := Option.some.inj h
      subst hr
      exact uu_vret rfl dX0_answerBareWord_63
  · replace h := uu_pos c1 h
    refine uu_aload_n dX0_answerBareWord_5 rfl (List.mem_of_getElem? (i := 0) rfl) ?_
    obtain ⟨s17, e18, h⟩ := uu_ob h
    refine uu_cv (d1 := 6) (k := 1042) (ci := 0) (T := TX0) (N := 12) (As := []) (st := []) (st' := []) (xc_X0_answerData uk  e18) so_1042.is (by decide) rfl kX0_answerData lX0_189 sX0_answerData (by decide) (Nat.le_of_ble_eq_true rfl) dX0_answerBareWord_6 rfl ?_
    refine uu_goto (tgt := 63) dX0_answerBareWord_9 (by decide) ?_
    have hr := Option.some.inj h
    subst hr
    exact uu_vret rfl dX0_answerBareWord_63
abbrev mX0_pathStart : hM := (yX0_pathStart, cX0_pathStart, 4, (some (.int)))
theorem dX0_pathStart_0 : decode cX0_pathStart 0 = .ok (.iconst 5, 1) := by decide +kernel
theorem dX0_pathStart_1 : decode cX0_pathStart 1 = .ok (.aload_n 1, 1) := by decide +kernel
theorem lX0_198 : Cond.methodLink RX0 198 mJ0_length_8abf5.1 ∈ lw_g := h_t4 55 rfl rfl
theorem dX0_pathStart_2 : decode cX0_pathStart 2 = .ok (.invokevirtual 198, 3) := by decide +kernel
theorem dX0_pathStart_5 : decode cX0_pathStart 5 = .ok (.iadd, 1) := by decide +kernel
theorem dX0_pathStart_6 : decode cX0_pathStart 6 = .ok (.istore_n 3, 1) := by decide +kernel
theorem dX0_pathStart_7 : decode cX0_pathStart 7 = .ok (.iload_n 3, 1) := by decide +kernel
theorem dX0_pathStart_8 : decode cX0_pathStart 8 = .ok (.iload_n 2, 1) := by decide +kernel
theorem dX0_pathStart_9 : decode cX0_pathStart 9 = .ok (.if_icmp .gt 20, 3) := by decide +kernel
theorem dX0_pathStart_29 : decode cX0_pathStart 29 = .ok (.iconst (-1), 1) := by decide +kernel
theorem dX0_pathStart_30 : decode cX0_pathStart 30 = .ok (.ireturn, 1) := by decide +kernel
theorem dX0_pathStart_12 : decode cX0_pathStart 12 = .ok (.aload_n 1, 1) := by decide +kernel
theorem dX0_pathStart_13 : decode cX0_pathStart 13 = .ok (.aload_n 0, 1) := by decide +kernel
theorem dX0_pathStart_14 : decode cX0_pathStart 14 = .ok (.getfield 25, 3) := by decide +kernel
theorem dX0_pathStart_17 : decode cX0_pathStart 17 = .ok (.iconst 5, 1) := by decide +kernel
theorem dX0_pathStart_18 : decode cX0_pathStart 18 = .ok (.iload_n 3, 1) := by decide +kernel
theorem lX0_119 : Cond.methodLink RX0 119 mX9_place.1 ∈ lw_g := h_t3 202 rfl rfl
theorem dX0_pathStart_19 : decode cX0_pathStart 19 = .ok (.invokestatic 119, 3) := by decide +kernel
theorem dX0_pathStart_22 : decode cX0_pathStart 22 = .ok (.ifCond .ne 7, 3) := by decide +kernel
theorem dX0_pathStart_25 : decode cX0_pathStart 25 = .ok (.iload_n 3, 1) := by decide +kernel
theorem dX0_pathStart_26 : decode cX0_pathStart 26 = .ok (.goto 4, 3) := by decide +kernel
def fn_X0_pathStart (w1 : List Nat) (x2 : Int32) (s : uS) : Option Int32 := if x2 < ((5 : Int32) + (nI w1.length)) then (some (-1 : Int32)) else ((fn_X9_place w1 1052 5 ((5 : Int32) + (nI w1.length)) s).bind fun v2 => if v2 = 0 then (some ((5 : Int32) + (nI w1.length))) else (some (-1 : Int32)))
set_option maxRecDepth 100000 in
set_option maxHeartbeats 4000000 in
theorem xc_X0_pathStart {l : Launch} {D : va_G} {A : Nat → ClassId} {B : Nat} {Z : State → Heap → Prop} {vF : Value} (uk : uK B Z vF) {w1 : List Nat} {x2 : Int32} {s : uS} {r : Int32} {qw1 pw1 : Nat} (hw1 : uStr B Z qw1 pw1 w1) (h : fn_X0_pathStart w1 x2 s = some r) : CU l D A B Z 5 mX0_pathStart s [.ref (B + 1042), .ref qw1, .int x2] (s, some (.int r)) := by
  unfold fn_X0_pathStart at h
  refine cu_of rfl uk.1.1 (Nat.le_of_ble_eq_true rfl) ?_
  show GU _ _ _ _ _ _ _ _ _ 0 [(0, .ref (B + 1042)), (1, .ref qw1), (2, .int x2)] []
  refine uu_iconst (v := 5) dX0_pathStart_0 (by decide) ?_
  refine uu_aload_n dX0_pathStart_1 rfl (List.mem_of_getElem? (i := 1) rfl) ?_
  refine uu_slen uk hw1 lX0_198 (by decide) (Nat.le_of_ble_eq_true rfl) dX0_pathStart_2 ?_
  refine uu_iadd dX0_pathStart_5 ?_
  refine uu_istore_n dX0_pathStart_6 rfl (by decide) rfl ?_
  refine uu_iload_n dX0_pathStart_7 rfl (List.mem_of_getElem? (i := 0) rfl) ?_
  refine uu_iload_n dX0_pathStart_8 rfl (List.mem_of_getElem? (i := 3) rfl) ?_
  refine uu_icmp_gt (tgt := 29) dX0_pathStart_9 (by decide) (fun c1 => ?_) (fun c1 => ?_)
  · replace h := uu_pos c1 h
    refine uu_iconst (v := -1) dX0_pathStart_29 (by decide) ?_
    have hr := Option.some.inj h
    subst hr
    exact uu_iret rfl dX0_pathStart_30
  · replace h := uu_neg c1 h
    refine uu_aload_n dX0_pathStart_12 rfl (List.mem_of_getElem? (i := 2) rfl) ?_
    refine uu_aload_n dX0_pathStart_13 rfl (List.mem_of_getElem? (i := 1) rfl) ?_
    refine uu_geta (ci := 0) (N := 12) fX0_25 (by decide) so_1042.is (by decide) (c := 1052) (by decide) dX0_pathStart_14 ?_
    refine uu_iconst (v := 5) dX0_pathStart_17 (by decide) ?_
    refine uu_iload_n dX0_pathStart_18 rfl (List.mem_of_getElem? (i := 0) rfl) ?_
    obtain ⟨v2, e3, h⟩ := uu_ob h
    refine uu_cs (d1 := 4) (As := [.ref qw1, .ref (B + 1052), .int 5, .int ((5 : Int32) + (nI w1.length))]) (st := []) (st' := [.int v2]) (xc_X9_place uk hw1 e3) kX9_place lX0_119 sX9_place (by decide) (Nat.le_of_ble_eq_true rfl) dX0_pathStart_19 rfl ?_
    refine uu_if_ne (tgt := 29) dX0_pathStart_22 (by decide) (fun c4 => ?_) (fun c4 => ?_)
    · replace h := uu_neg c4 h
      refine uu_iconst (v := -1) dX0_pathStart_29 (by decide) ?_
      have hr := Option.some.inj h
      subst hr
      exact uu_iret rfl dX0_pathStart_30
    · replace h := uu_pos c4 h
      refine uu_iload_n dX0_pathStart_25 rfl (List.mem_of_getElem? (i := 0) rfl) ?_
      refine uu_goto (tgt := 30) dX0_pathStart_26 (by decide) ?_
      have hr := Option.some.inj h
      subst hr
      exact uu_iret rfl dX0_pathStart_30
abbrev mX9_isDigit : hM := (yX9_isDigit, cX9_isDigit, 1, (some (.boolean)))
theorem dX9_isDigit_0 : decode cX9_isDigit 0 = .ok (.iload_n 0, 1) := by decide +kernel
theorem dX9_isDigit_1 : decode cX9_isDigit 1 = .ok (.bipush 48, 2) := by decide +kernel
theorem dX9_isDigit_3 : decode cX9_isDigit 3 = .ok (.if_icmp .lt 13, 3) := by decide +kernel
theorem dX9_isDigit_16 : decode cX9_isDigit 16 = .ok (.iconst 0, 1) := by decide +kernel
theorem dX9_isDigit_17 : decode cX9_isDigit 17 = .ok (.ireturn, 1) := by decide +kernel
theorem dX9_isDigit_6 : decode cX9_isDigit 6 = .ok (.iload_n 0, 1) := by decide +kernel
theorem dX9_isDigit_7 : decode cX9_isDigit 7 = .ok (.bipush 57, 2) := by decide +kernel
theorem dX9_isDigit_9 : decode cX9_isDigit 9 = .ok (.if_icmp .gt 7, 3) := by decide +kernel
theorem dX9_isDigit_12 : decode cX9_isDigit 12 = .ok (.iconst 1, 1) := by decide +kernel
theorem dX9_isDigit_13 : decode cX9_isDigit 13 = .ok (.goto 4, 3) := by decide +kernel
def fn_X9_isDigit (x0 : Int32) (s : uS) : Option Bool := if x0 < 48 then (some false) else (if (57 : Int32) < x0 then (some false) else (some true))
set_option maxRecDepth 100000 in
set_option maxHeartbeats 4000000 in
theorem xc_X9_isDigit {l : Launch} {D : va_G} {A : Nat → ClassId} {B : Nat} {Z : State → Heap → Prop} {vF : Value} (uk : uK B Z vF) {x0 : Int32} {s : uS} {r : Bool}  (h : fn_X9_isDigit x0 s = some r) : CU l D A B Z 0 mX9_isDigit s [.int x0] (s, some (.int (bI r))) := by
  unfold fn_X9_isDigit at h
  refine cu_of rfl uk.1.1 (Nat.le_of_ble_eq_true rfl) ?_
  show GU _ _ _ _ _ _ _ _ _ 0 [(0, .int x0)] []
  refine uu_iload_n dX9_isDigit_0 rfl (List.mem_of_getElem? (i := 0) rfl) ?_
  refine uu_bipush (v := 48) dX9_isDigit_1 (by decide) ?_
  refine uu_icmp_lt (tgt := 16) dX9_isDigit_3 (by decide) (fun c1 => ?_) (fun c1 => ?_)
  · replace h := uu_pos c1 h
    refine uu_iconst (v := 0) dX9_isDigit_16 (by decide) ?_
    have hr := Option.some.inj h
    subst hr
    exact uu_zret (x := bI false) rfl (bI_z _) dX9_isDigit_17
  · replace h := uu_neg c1 h
    refine uu_iload_n dX9_isDigit_6 rfl (List.mem_of_getElem? (i := 0) rfl) ?_
    refine uu_bipush (v := 57) dX9_isDigit_7 (by decide) ?_
    refine uu_icmp_gt (tgt := 16) dX9_isDigit_9 (by decide) (fun c2 => ?_) (fun c2 => ?_)
    · replace h := uu_pos c2 h
      refine uu_iconst (v := 0) dX9_isDigit_16 (by decide) ?_
      have hr := Option.some.inj h
      subst hr
      exact uu_zret (x := bI false) rfl (bI_z _) dX9_isDigit_17
    · replace h := uu_neg c2 h
      refine uu_iconst (v := 1) dX9_isDigit_12 (by decide) ?_
      refine uu_goto (tgt := 17) dX9_isDigit_13 (by decide) ?_
      have hr := Option.some.inj h
      subst hr
      exact uu_zret (x := bI true) rfl (bI_z _) dX9_isDigit_17
abbrev mX0_isSize : hM := (yX0_isSize, cX0_isSize, 6, (some (.boolean)))
theorem dX0_isSize_39 : decode cX0_isSize 39 = .ok (.iload 5, 2) := by decide +kernel
theorem dX0_isSize_41 : decode cX0_isSize 41 = .ok (.iload_n 2, 1) := by decide +kernel
theorem dX0_isSize_42 : decode cX0_isSize 42 = .ok (.if_icmp .ge 42, 3) := by decide +kernel
theorem dX0_isSize_84 : decode cX0_isSize 84 = .ok (.aload_n 0, 1) := by decide +kernel
theorem dX0_isSize_85 : decode cX0_isSize 85 = .ok (.aload_n 0, 1) := by decide +kernel
theorem fX0_170 : h_fl RX0 170 0 11 RX0 TX0 12 := ⟨rfl, by decide, inX0, h_t2 185 rfl rfl⟩
theorem dX0_isSize_86 : decode cX0_isSize 86 = .ok (.getfield 170, 3) := by decide +kernel
theorem dX0_isSize_89 : decode cX0_isSize 89 = .ok (.ifCond .ne 11, 3) := by decide +kernel
theorem dX0_isSize_100 : decode cX0_isSize 100 = .ok (.iconst 1, 1) := by decide +kernel
theorem dX0_isSize_101 : decode cX0_isSize 101 = .ok (.goto 4, 3) := by decide +kernel
theorem dX0_isSize_105 : decode cX0_isSize 105 = .ok (.putfield 170, 3) := by decide +kernel
theorem dX0_isSize_108 : decode cX0_isSize 108 = .ok (.iconst 1, 1) := by decide +kernel
theorem dX0_isSize_109 : decode cX0_isSize 109 = .ok (.ireturn, 1) := by decide +kernel
theorem dX0_isSize_92 : decode cX0_isSize 92 = .ok (.iload 4, 2) := by decide +kernel
theorem dX0_isSize_94 : decode cX0_isSize 94 = .ok (.sipush 4000, 3) := by decide +kernel
theorem dX0_isSize_97 : decode cX0_isSize 97 = .ok (.if_icmp .le 7, 3) := by decide +kernel
theorem dX0_isSize_104 : decode cX0_isSize 104 = .ok (.iconst 0, 1) := by decide +kernel
theorem dX0_isSize_45 : decode cX0_isSize 45 = .ok (.aload_n 0, 1) := by decide +kernel
theorem dX0_isSize_46 : decode cX0_isSize 46 = .ok (.getfield 25, 3) := by decide +kernel
theorem dX0_isSize_49 : decode cX0_isSize 49 = .ok (.iload 5, 2) := by decide +kernel
theorem dX0_isSize_51 : decode cX0_isSize 51 = .ok (.baload, 1) := by decide +kernel
theorem kX9_isDigit : h_ml mX9_isDigit 1 := ⟨h_t4 77 rfl rfl, h_t1 4 rfl rfl, ⟨by decide, by decide, by decide +kernel⟩, by decide⟩
theorem lX0_214 : Cond.methodLink RX0 214 mX9_isDigit.1 ∈ lw_g := h_t4 75 rfl rfl
theorem sX9_isDigit : Cond.static mX9_isDigit.1 ∈ lw_g := h_t4 76 rfl rfl
theorem dX0_isSize_52 : decode cX0_isSize 52 = .ok (.invokestatic 214, 3) := by decide +kernel
theorem dX0_isSize_55 : decode cX0_isSize 55 = .ok (.ifCond .ne 5, 3) := by decide +kernel
theorem dX0_isSize_60 : decode cX0_isSize 60 = .ok (.iload 4, 2) := by decide +kernel
theorem dX0_isSize_62 : decode cX0_isSize 62 = .ok (.bipush 10, 2) := by decide +kernel
theorem dX0_isSize_64 : decode cX0_isSize 64 = .ok (.imul, 1) := by decide +kernel
theorem dX0_isSize_65 : decode cX0_isSize 65 = .ok (.aload_n 0, 1) := by decide +kernel
theorem dX0_isSize_66 : decode cX0_isSize 66 = .ok (.getfield 25, 3) := by decide +kernel
theorem dX0_isSize_69 : decode cX0_isSize 69 = .ok (.iload 5, 2) := by decide +kernel
theorem dX0_isSize_71 : decode cX0_isSize 71 = .ok (.baload, 1) := by decide +kernel
theorem dX0_isSize_72 : decode cX0_isSize 72 = .ok (.iadd, 1) := by decide +kernel
theorem dX0_isSize_73 : decode cX0_isSize 73 = .ok (.bipush 48, 2) := by decide +kernel
theorem dX0_isSize_75 : decode cX0_isSize 75 = .ok (.isub, 1) := by decide +kernel
theorem dX0_isSize_76 : decode cX0_isSize 76 = .ok (.istore 4, 2) := by decide +kernel
theorem dX0_isSize_78 : decode cX0_isSize 78 = .ok (.iinc 5 1, 3) := by decide +kernel
theorem dX0_isSize_81 : decode cX0_isSize 81 = .ok (.goto (-42), 3) := by decide +kernel
theorem dX0_isSize_58 : decode cX0_isSize 58 = .ok (.iconst 0, 1) := by decide +kernel
theorem dX0_isSize_59 : decode cX0_isSize 59 = .ok (.ireturn, 1) := by decide +kernel
theorem dX0_isSize_0 : decode cX0_isSize 0 = .ok (.iload_n 1, 1) := by decide +kernel
theorem dX0_isSize_1 : decode cX0_isSize 1 = .ok (.iconst 5, 1) := by decide +kernel
theorem dX0_isSize_2 : decode cX0_isSize 2 = .ok (.iadd, 1) := by decide +kernel
theorem dX0_isSize_3 : decode cX0_isSize 3 = .ok (.istore_n 3, 1) := by decide +kernel
theorem dX0_isSize_4 : decode cX0_isSize 4 = .ok (.iload_n 3, 1) := by decide +kernel
theorem dX0_isSize_5 : decode cX0_isSize 5 = .ok (.iload_n 2, 1) := by decide +kernel
theorem dX0_isSize_6 : decode cX0_isSize 6 = .ok (.if_icmp .ge 25, 3) := by decide +kernel
theorem dX0_isSize_31 : decode cX0_isSize 31 = .ok (.iconst 0, 1) := by decide +kernel
theorem dX0_isSize_32 : decode cX0_isSize 32 = .ok (.ireturn, 1) := by decide +kernel
theorem dX0_isSize_9 : decode cX0_isSize 9 = .ok (.iload_n 2, 1) := by decide +kernel
theorem dX0_isSize_10 : decode cX0_isSize 10 = .ok (.iload_n 3, 1) := by decide +kernel
theorem dX0_isSize_11 : decode cX0_isSize 11 = .ok (.isub, 1) := by decide +kernel
theorem dX0_isSize_12 : decode cX0_isSize 12 = .ok (.bipush 9, 2) := by decide +kernel
theorem dX0_isSize_14 : decode cX0_isSize 14 = .ok (.if_icmp .gt 17, 3) := by decide +kernel
theorem dX0_isSize_17 : decode cX0_isSize 17 = .ok (.ldc 212, 2) := by decide +kernel
theorem dX0_isSize_19 : decode cX0_isSize 19 = .ok (.aload_n 0, 1) := by decide +kernel
theorem dX0_isSize_20 : decode cX0_isSize 20 = .ok (.getfield 25, 3) := by decide +kernel
theorem dX0_isSize_23 : decode cX0_isSize 23 = .ok (.iload_n 1, 1) := by decide +kernel
theorem dX0_isSize_24 : decode cX0_isSize 24 = .ok (.iload_n 3, 1) := by decide +kernel
theorem dX0_isSize_25 : decode cX0_isSize 25 = .ok (.invokestatic 119, 3) := by decide +kernel
theorem dX0_isSize_28 : decode cX0_isSize 28 = .ok (.ifCond .eq 5, 3) := by decide +kernel
theorem dX0_isSize_33 : decode cX0_isSize 33 = .ok (.iconst 0, 1) := by decide +kernel
theorem dX0_isSize_34 : decode cX0_isSize 34 = .ok (.istore 4, 2) := by decide +kernel
theorem dX0_isSize_36 : decode cX0_isSize 36 = .ok (.iload_n 3, 1) := by decide +kernel
theorem dX0_isSize_37 : decode cX0_isSize 37 = .ok (.istore 5, 2) := by decide +kernel
def fb_X0_isSize_39 (K39 : Int32 → Int32 → Int32 → uS → Option (uS × Bool)) (x2 : Int32) (x4 : Int32) (x5 : Int32) (s : uS) : Option (uS × Bool) := if x2 ≤ x5 then (if (s.I 1042 11) = 0 then (if x4 ≤ 4000 then (some (wI s 1042 11 0, true)) else (some (wI s 1042 11 1, true))) else (some (wI s 1042 11 1, true))) else ((iget 21 s 1052 x5).bind fun v4 => (fn_X9_isDigit v4 s).bind fun v6 => if v6 = true then ((iget 21 s 1052 x5).bind fun v9 => K39 x2 (((x4 * 10) + v9) - 48) (x5 + 1) s) else (some (s, false)))
set_option maxRecDepth 100000 in
set_option maxHeartbeats 4000000 in
theorem xb_X0_isSize_39 {l : Launch} {D : va_G} {A : Nat → ClassId} {B : Nat} {Z : State → Heap → Prop} {vF : Value} (uk : uK B Z vF) {K39 : Int32 → Int32 → Int32 → uS → Option (uS × Bool)} (hK39 : ∀ (x2 : Int32) (x4 : Int32) (x5 : Int32)  (s : uS) (r : (uS × Bool)), K39 x2 x4 x5 s = some r → GU l D A B Z mX0_isSize 5 (r.1, some (.int (bI r.2))) s 39 [(0, .ref (B + 1042)), (2, .int x2), (4, .int x4), (5, .int x5)] []) {x2 : Int32} {x4 : Int32} {x5 : Int32} {s : uS} {r : (uS × Bool)}  (h : fb_X0_isSize_39 K39 x2 x4 x5 s = some r) : GU l D A B Z mX0_isSize 5 (r.1, some (.int (bI r.2))) s 39 [(0, .ref (B + 1042)), (2, .int x2), (4, .int x4), (5, .int x5)] [] := by
  unfold fb_X0_isSize_39 at h
  refine uu_iload dX0_isSize_39 (List.mem_of_getElem? (i := 3) rfl) ?_
  refine uu_iload_n dX0_isSize_41 rfl (List.mem_of_getElem? (i := 1) rfl) ?_
  refine uu_icmp_ge (tgt := 84) dX0_isSize_42 (by decide) (fun c1 => ?_) (fun c1 => ?_)
  · replace h := uu_pos c1 h
    refine uu_aload_n dX0_isSize_84 rfl (List.mem_of_getElem? (i := 0) rfl) ?_
    refine uu_aload_n dX0_isSize_85 rfl (List.mem_of_getElem? (i := 0) rfl) ?_
    refine uu_geti (ci := 0) (N := 12) fX0_170 (by decide) so_1042.is (by decide) (by decide) dX0_isSize_86 ?_
    refine uu_if_ne (tgt := 100) dX0_isSize_89 (by decide) (fun c2 => ?_) (fun c2 => ?_)
    · replace h := uu_neg c2 h
      refine uu_iconst (v := 1) dX0_isSize_100 (by decide) ?_
      refine uu_goto (tgt := 105) dX0_isSize_101 (by decide) ?_
      refine uu_puti (ft := .boolean) (ci := 0) (N := 12) fX0_170 ptX0 (Or.inl rfl) (by decide) so_1042.is (by decide) (by decide) (by decide +kernel) rfl rfl dX0_isSize_105 ?_
      refine uu_iconst (v := 1) dX0_isSize_108 (by decide) ?_
      have hr := Option.some.inj h
      subst hr
      exact uu_zret (x := bI true) rfl (bI_z _) dX0_isSize_109
    · replace h := uu_pos c2 h
      refine uu_iload dX0_isSize_92 (List.mem_of_getElem? (i := 2) rfl) ?_
      refine uu_sipush (v := 4000) dX0_isSize_94 (by decide) ?_
      refine uu_icmp_le (tgt := 104) dX0_isSize_97 (by decide) (fun c3 => ?_) (fun c3 => ?_)
      · replace h := uu_pos c3 h
        refine uu_iconst (v := 0) dX0_isSize_104 (by decide) ?_
        refine uu_puti (ft := .boolean) (ci := 0) (N := 12) fX0_170 ptX0 (Or.inl rfl) (by decide) so_1042.is (by decide) (by decide) (by decide +kernel) rfl rfl dX0_isSize_105 ?_
        refine uu_iconst (v := 1) dX0_isSize_108 (by decide) ?_
        have hr := Option.some.inj h
        subst hr
        exact uu_zret (x := bI true) rfl (bI_z _) dX0_isSize_109
      · replace h := uu_neg c3 h
        refine uu_iconst (v := 1) dX0_isSize_100 (by decide) ?_
        refine uu_goto (tgt := 105) dX0_isSize_101 (by decide) ?_
        refine uu_puti (ft := .boolean) (ci := 0) (N := 12) fX0_170 ptX0 (Or.inl rfl) (by decide) so_1042.is (by decide) (by decide) (by decide +kernel) rfl rfl dX0_isSize_105 ?_
        refine uu_iconst (v := 1) dX0_isSize_108 (by decide) ?_
        have hr := Option.some.inj h
        subst hr
        exact uu_zret (x := bI true) rfl (bI_z _) dX0_isSize_109
  · replace h := uu_neg c1 h
    refine uu_aload_n dX0_isSize_45 rfl (List.mem_of_getElem? (i := 0) rfl) ?_
    refine uu_geta (ci := 0) (N := 12) fX0_25 (by decide) so_1042.is (by decide) (c := 1052) (by decide) dX0_isSize_46 ?_
    refine uu_iload dX0_isSize_49 (List.mem_of_getElem? (i := 3) rfl) ?_
    obtain ⟨v4, e5, h⟩ := uu_ob h
    refine uu_bald e5 dX0_isSize_51 ?_
    obtain ⟨v6, e7, h⟩ := uu_ob h
    refine uu_cs (d1 := 0) (As := [.int v4]) (st := []) (st' := [.int (bI v6)]) (xc_X9_isDigit uk  e7) kX9_isDigit lX0_214 sX9_isDigit (by decide) (Nat.le_of_ble_eq_true rfl) dX0_isSize_52 rfl ?_
    refine uu_ifb_ne (tgt := 60) dX0_isSize_55 (by decide) (fun c8 => ?_) (fun c8 => ?_)
    · replace h := uu_pos c8 h
      refine uu_iload dX0_isSize_60 (List.mem_of_getElem? (i := 2) rfl) ?_
      refine uu_bipush (v := 10) dX0_isSize_62 (by decide) ?_
      refine uu_imul dX0_isSize_64 ?_
      refine uu_aload_n dX0_isSize_65 rfl (List.mem_of_getElem? (i := 0) rfl) ?_
      refine uu_geta (ci := 0) (N := 12) fX0_25 (by decide) so_1042.is (by decide) (c := 1052) (by decide) dX0_isSize_66 ?_
      refine uu_iload dX0_isSize_69 (List.mem_of_getElem? (i := 3) rfl) ?_
      obtain ⟨v9, e10, h⟩ := uu_ob h
      refine uu_bald e10 dX0_isSize_71 ?_
      refine uu_iadd dX0_isSize_72 ?_
      refine uu_bipush (v := 48) dX0_isSize_73 (by decide) ?_
      refine uu_isub dX0_isSize_75 ?_
      refine uu_istore dX0_isSize_76 (by decide) rfl ?_
      refine uu_iinc (v := x5 + 1) dX0_isSize_78 (k := 3) rfl rfl (by decide) rfl ?_
      refine uu_goto (tgt := 39) dX0_isSize_81 (by decide) ?_
      refine uu_lv [2, 3, 1, 0] (lv' := [(0, .ref (B + 1042)), (2, .int x2), (4, .int (((x4 * 10) + v9) - 48)), (5, .int (x5 + 1))]) rfl ?_
      exact hK39 x2 (((x4 * 10) + v9) - 48) (x5 + 1) _ _ h
    · replace h := uu_neg c8 h
      refine uu_iconst (v := 0) dX0_isSize_58 (by decide) ?_
      have hr := Option.some.inj h
      subst hr
      exact uu_zret (x := bI false) rfl (bI_z _) dX0_isSize_59
def fn_X0_isSize_39  : Nat → Int32 → Int32 → Int32 → uS → Option (uS × Bool)
  | 0 => fun _ _ _ _ => none
  | n + 1 => fb_X0_isSize_39 (fn_X0_isSize_39  n)
set_option maxRecDepth 100000 in
set_option maxHeartbeats 4000000 in
theorem xn_X0_isSize_39 {l : Launch} {D : va_G} {A : Nat → ClassId} {B : Nat} {Z : State → Heap → Prop} {vF : Value} (uk : uK B Z vF)   : ∀ (n : Nat) (x2 : Int32) (x4 : Int32) (x5 : Int32)  (s : uS) (r : (uS × Bool)), fn_X0_isSize_39  n x2 x4 x5 s = some r → GU l D A B Z mX0_isSize 5 (r.1, some (.int (bI r.2))) s 39 [(0, .ref (B + 1042)), (2, .int x2), (4, .int x4), (5, .int x5)] [] := by
  intro n
  induction n with
  | zero => intro x2 x4 x5 s r h
            cases h
  | succ n ih => intro x2 x4 x5 s r h
                 exact xb_X0_isSize_39 uk ih  h
def fn_X0_isSize (x1 : Int32) (x2 : Int32) (s : uS) : Option (uS × Bool) := if x2 ≤ (x1 + 5) then (some (s, false)) else (if (9 : Int32) < (x2 - (x1 + 5)) then (some (s, false)) else ((fn_X9_place kW_33 1052 x1 (x1 + 5) s).bind fun v4 => if v4 = 0 then (fn_X0_isSize_39 uFu x2 0 (x1 + 5) s) else (some (s, false))))
set_option maxRecDepth 100000 in
set_option maxHeartbeats 4000000 in
theorem xc_X0_isSize {l : Launch} {D : va_G} {A : Nat → ClassId} {B : Nat} {Z : State → Heap → Prop} {vF : Value} (uk : uK B Z vF) {x1 : Int32} {x2 : Int32} {s : uS} {r : (uS × Bool)}  (h : fn_X0_isSize x1 x2 s = some r) : CU l D A B Z 5 mX0_isSize s [.ref (B + 1042), .int x1, .int x2] (r.1, some (.int (bI r.2))) := by
  unfold fn_X0_isSize at h
  refine cu_of rfl uk.1.1 (Nat.le_of_ble_eq_true rfl) ?_
  show GU _ _ _ _ _ _ _ _ _ 0 [(0, .ref (B + 1042)), (1, .int x1), (2, .int x2)] []
  refine uu_iload_n dX0_isSize_0 rfl (List.mem_of_getElem? (i := 1) rfl) ?_
  refine uu_iconst (v := 5) dX0_isSize_1 (by decide) ?_
  refine uu_iadd dX0_isSize_2 ?_
  refine uu_istore_n dX0_isSize_3 rfl (by decide) rfl ?_
  refine uu_iload_n dX0_isSize_4 rfl (List.mem_of_getElem? (i := 0) rfl) ?_
  refine uu_iload_n dX0_isSize_5 rfl (List.mem_of_getElem? (i := 3) rfl) ?_
  refine uu_icmp_ge (tgt := 31) dX0_isSize_6 (by decide) (fun c1 => ?_) (fun c1 => ?_)
  · replace h := uu_pos c1 h
    refine uu_iconst (v := 0) dX0_isSize_31 (by decide) ?_
    have hr := Option.some.inj h
    subst hr
    exact uu_zret (x := bI false) rfl (bI_z _) dX0_isSize_32
  · replace h := uu_neg c1 h
    refine uu_iload_n dX0_isSize_9 rfl (List.mem_of_getElem? (i := 3) rfl) ?_
    refine uu_iload_n dX0_isSize_10 rfl (List.mem_of_getElem? (i := 0) rfl) ?_
    refine uu_isub dX0_isSize_11 ?_
    refine uu_bipush (v := 9) dX0_isSize_12 (by decide) ?_
    refine uu_icmp_gt (tgt := 31) dX0_isSize_14 (by decide) (fun c2 => ?_) (fun c2 => ?_)
    · replace h := uu_pos c2 h
      refine uu_iconst (v := 0) dX0_isSize_31 (by decide) ?_
      have hr := Option.some.inj h
      subst hr
      exact uu_zret (x := bI false) rfl (bI_z _) dX0_isSize_32
    · replace h := uu_neg c2 h
      obtain ⟨cq3, cp3, cv3, cw3⟩ := uk.2.1 33 _ rfl
      refine uu_ldcS cv3 dX0_isSize_17 ?_
      refine uu_aload_n dX0_isSize_19 rfl (List.mem_of_getElem? (i := 1) rfl) ?_
      refine uu_geta (ci := 0) (N := 12) fX0_25 (by decide) so_1042.is (by decide) (c := 1052) (by decide) dX0_isSize_20 ?_
      refine uu_iload_n dX0_isSize_23 rfl (List.mem_of_getElem? (i := 2) rfl) ?_
      refine uu_iload_n dX0_isSize_24 rfl (List.mem_of_getElem? (i := 0) rfl) ?_
      obtain ⟨v4, e5, h⟩ := uu_ob h
      refine uu_cs (d1 := 4) (As := [.ref cq3, .ref (B + 1052), .int x1, .int (x1 + 5)]) (st := []) (st' := [.int v4]) (xc_X9_place uk cw3 e5) kX9_place lX0_119 sX9_place (by decide) (Nat.le_of_ble_eq_true rfl) dX0_isSize_25 rfl ?_
      refine uu_if_eq (tgt := 33) dX0_isSize_28 (by decide) (fun c6 => ?_) (fun c6 => ?_)
      · replace h := uu_pos c6 h
        refine uu_iconst (v := 0) dX0_isSize_33 (by decide) ?_
        refine uu_istore dX0_isSize_34 (by decide) rfl ?_
        refine uu_iload_n dX0_isSize_36 rfl (List.mem_of_getElem? (i := 1) rfl) ?_
        refine uu_istore dX0_isSize_37 (by decide) rfl ?_
        refine uu_lv [3, 5, 1, 0] (lv' := [(0, .ref (B + 1042)), (2, .int x2), (4, .int 0), (5, .int (x1 + 5))]) rfl ?_
        exact xn_X0_isSize_39 uk  _ _ _ _ _ _ h
      · replace h := uu_neg c6 h
        refine uu_iconst (v := 0) dX0_isSize_31 (by decide) ?_
        have hr := Option.some.inj h
        subst hr
        exact uu_zret (x := bI false) rfl (bI_z _) dX0_isSize_32
