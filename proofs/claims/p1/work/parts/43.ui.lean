def fn_X11_feed (x1 : Int32) (x2 : Int32) (x3 : Int32) (x4 : Int32) (x5 : Int32) (s : uS) : Option (uS × Bool) := if (s.I 0 16) = 0 then (some (s, false)) else (if (s.I 0 9) ≤ 5980 then ((fn_X11_addToTape x1 s).bind fun s3 => (fn_X11_addToTape x2 s3).bind fun s5 => (fn_X11_addToTape x3 s5).bind fun s7 => (fn_X11_addToTape x4 s7).bind fun s9 => (fn_X11_addToTape x5 s9).bind fun s11 => some (s11, true)) else (some (s, false)))
set_option maxRecDepth 100000 in
set_option maxHeartbeats 4000000 in
theorem xc_X11_feed {l : Launch} {D : va_G} {A : Nat → ClassId} {B : Nat} {Z : State → Heap → Prop} {vF : Value} (uk : uK B Z vF) {x1 : Int32} {x2 : Int32} {x3 : Int32} {x4 : Int32} {x5 : Int32} {s : uS} {r : (uS × Bool)}  (h : fn_X11_feed x1 x2 x3 x4 x5 s = some r) : CU l D A B Z 1 mX11_feed s [.ref (B + 0), .int x1, .int x2, .int x3, .int x4, .int x5] (r.1, some (.int (bI r.2))) := by
  unfold fn_X11_feed at h
  refine cu_of rfl uk.1.1 (Nat.le_of_ble_eq_true rfl) ?_
  show GU _ _ _ _ _ _ _ _ _ 0 [(0, .ref (B + 0)), (1, .int x1), (2, .int x2), (3, .int x3), (4, .int x4), (5, .int x5)] []
  refine uu_aload_n dX11_feed_0 rfl (List.mem_of_getElem? (i := 0) rfl) ?_
  refine uu_geti (ci := 11) (N := 17) fX11_44 (by decide) so_0.is (by decide) (by decide) dX11_feed_1 ?_
  refine uu_if_eq (tgt := 17) dX11_feed_4 (by decide) (fun c1 => ?_) (fun c1 => ?_)
  · replace h := uu_pos c1 h
    refine uu_iconst (v := 0) dX11_feed_17 (by decide) ?_
    have hr := Option.some.inj h
    subst hr
    exact uu_zret (x := bI false) rfl (bI_z _) dX11_feed_18
  · replace h := uu_neg c1 h
    refine uu_aload_n dX11_feed_7 rfl (List.mem_of_getElem? (i := 0) rfl) ?_
    refine uu_geti (ci := 11) (N := 17) fX11_88 (by decide) so_0.is (by decide) (by decide) dX11_feed_8 ?_
    refine uu_sipush (v := 5980) dX11_feed_11 (by decide) ?_
    refine uu_icmp_le (tgt := 19) dX11_feed_14 (by decide) (fun c2 => ?_) (fun c2 => ?_)
    · replace h := uu_pos c2 h
      refine uu_aload_n dX11_feed_19 rfl (List.mem_of_getElem? (i := 0) rfl) ?_
      refine uu_iload_n dX11_feed_20 rfl (List.mem_of_getElem? (i := 1) rfl) ?_
      obtain ⟨s3, e4, h⟩ := uu_ob h
      refine uu_cv (d1 := 0) (k := 0) (ci := 11) (T := TX11) (N := 17) (As := [.int x1]) (st := []) (st' := []) (xc_X11_addToTape uk  e4) so_0.is (by decide) rfl kX11_addToTape lX11_92 sX11_addToTape (by decide) (Nat.le_of_ble_eq_true rfl) dX11_feed_21 rfl ?_
      refine uu_aload_n dX11_feed_24 rfl (List.mem_of_getElem? (i := 0) rfl) ?_
      refine uu_iload_n dX11_feed_25 rfl (List.mem_of_getElem? (i := 2) rfl) ?_
      obtain ⟨s5, e6, h⟩ := uu_ob h
      refine uu_cv (d1 := 0) (k := 0) (ci := 11) (T := TX11) (N := 17) (As := [.int x2]) (st := []) (st' := []) (xc_X11_addToTape uk  e6) so_0.is (by decide) rfl kX11_addToTape lX11_92 sX11_addToTape (by decide) (Nat.le_of_ble_eq_true rfl) dX11_feed_26 rfl ?_
      refine uu_aload_n dX11_feed_29 rfl (List.mem_of_getElem? (i := 0) rfl) ?_
      refine uu_iload_n dX11_feed_30 rfl (List.mem_of_getElem? (i := 3) rfl) ?_
      obtain ⟨s7, e8, h⟩ := uu_ob h
      refine uu_cv (d1 := 0) (k := 0) (ci := 11) (T := TX11) (N := 17) (As := [.int x3]) (st := []) (st' := []) (xc_X11_addToTape uk  e8) so_0.is (by decide) rfl kX11_addToTape lX11_92 sX11_addToTape (by decide) (Nat.le_of_ble_eq_true rfl) dX11_feed_31 rfl ?_
      refine uu_aload_n dX11_feed_34 rfl (List.mem_of_getElem? (i := 0) rfl) ?_
      refine uu_iload dX11_feed_35 (List.mem_of_getElem? (i := 4) rfl) ?_
      obtain ⟨s9, e10, h⟩ := uu_ob h
      refine uu_cv (d1 := 0) (k := 0) (ci := 11) (T := TX11) (N := 17) (As := [.int x4]) (st := []) (st' := []) (xc_X11_addToTape uk  e10) so_0.is (by decide) rfl kX11_addToTape lX11_92 sX11_addToTape (by decide) (Nat.le_of_ble_eq_true rfl) dX11_feed_37 rfl ?_
      refine uu_aload_n dX11_feed_40 rfl (List.mem_of_getElem? (i := 0) rfl) ?_
      refine uu_iload dX11_feed_41 (List.mem_of_getElem? (i := 5) rfl) ?_
      obtain ⟨s11, e12, h⟩ := uu_ob h
      refine uu_cv (d1 := 0) (k := 0) (ci := 11) (T := TX11) (N := 17) (As := [.int x5]) (st := []) (st' := []) (xc_X11_addToTape uk  e12) so_0.is (by decide) rfl kX11_addToTape lX11_92 sX11_addToTape (by decide) (Nat.le_of_ble_eq_true rfl) dX11_feed_43 rfl ?_
      refine uu_iconst (v := 1) dX11_feed_46 (by decide) ?_
      have hr := Option.some.inj h
      subst hr
      exact uu_zret (x := bI true) rfl (bI_z _) dX11_feed_47
    · replace h := uu_neg c2 h
      refine uu_iconst (v := 0) dX11_feed_17 (by decide) ?_
      have hr := Option.some.inj h
      subst hr
      exact uu_zret (x := bI false) rfl (bI_z _) dX11_feed_18
def fn_X11_connect  (s : uS) : Option (uS × Bool) := if (s.I 0 16) = 0 then (some (s, false)) else ((fn_X0_open s).bind fun s2 => some (s2, true))
set_option maxRecDepth 100000 in
set_option maxHeartbeats 4000000 in
theorem xc_X11_connect {l : Launch} {D : va_G} {A : Nat → ClassId} {B : Nat} {Z : State → Heap → Prop} {vF : Value} (uk : uK B Z vF)  {s : uS} {r : (uS × Bool)}  (h : fn_X11_connect  s = some r) : CU l D A B Z 7 mX11_connect s [.ref (B + 0)] (r.1, some (.int (bI r.2))) := by
  unfold fn_X11_connect at h
  refine cu_of rfl uk.1.1 (Nat.le_of_ble_eq_true rfl) ?_
  show GU _ _ _ _ _ _ _ _ _ 0 [(0, .ref (B + 0))] []
  refine uu_aload_n dX11_connect_0 rfl (List.mem_of_getElem? (i := 0) rfl) ?_
  refine uu_geti (ci := 11) (N := 17) fX11_44 (by decide) so_0.is (by decide) (by decide) dX11_connect_1 ?_
  refine uu_if_ne (tgt := 9) dX11_connect_4 (by decide) (fun c1 => ?_) (fun c1 => ?_)
  · replace h := uu_neg c1 h
    refine uu_aload_n dX11_connect_9 rfl (List.mem_of_getElem? (i := 0) rfl) ?_
    refine uu_geta (ci := 11) (N := 17) fX11_56 (by decide) so_0.is (by decide) (c := 1042) (by decide) dX11_connect_10 ?_
    obtain ⟨s2, e3, h⟩ := uu_ob h
    refine uu_cv (d1 := 6) (k := 1042) (ci := 0) (T := TX0) (N := 12) (As := []) (st := []) (st' := []) (xc_X0_open uk  e3) so_1042.is (by decide) rfl kX0_open lX11_96 sX0_open (by decide) (Nat.le_of_ble_eq_true rfl) dX11_connect_13 rfl ?_
    refine uu_iconst (v := 1) dX11_connect_16 (by decide) ?_
    have hr := Option.some.inj h
    subst hr
    exact uu_zret (x := bI true) rfl (bI_z _) dX11_connect_17
  · replace h := uu_pos c1 h
    refine uu_iconst (v := 0) dX11_connect_7 (by decide) ?_
    have hr := Option.some.inj h
    subst hr
    exact uu_zret (x := bI false) rfl (bI_z _) dX11_connect_8
def fn_X11_reply (x1 : Int32) (s : uS) : Option (uS × Int64) := if x1 < 0 then (some (s, 0)) else (if x1 ≤ 4 then ((pgt 24 s 2 x1).bind fun j3 => if uSo j3 5 then ((fn_X5_take j3 s).bind fun r6 => some (r6.1, r6.2)) else none) else (some (s, 0)))
set_option maxRecDepth 100000 in
set_option maxHeartbeats 4000000 in
theorem xc_X11_reply {l : Launch} {D : va_G} {A : Nat → ClassId} {B : Nat} {Z : State → Heap → Prop} {vF : Value} (uk : uK B Z vF) {x1 : Int32} {s : uS} {r : (uS × Int64)}  (h : fn_X11_reply x1 s = some r) : CU l D A B Z 2 mX11_reply s [.ref (B + 0), .int x1] (r.1, some (.long r.2)) := by
  unfold fn_X11_reply at h
  refine cu_of rfl uk.1.1 (Nat.le_of_ble_eq_true rfl) ?_
  show GU _ _ _ _ _ _ _ _ _ 0 [(0, .ref (B + 0)), (1, .int x1)] []
  refine uu_iload_n dX11_reply_0 rfl (List.mem_of_getElem? (i := 1) rfl) ?_
  refine uu_if_lt (tgt := 9) dX11_reply_1 (by decide) (fun c1 => ?_) (fun c1 => ?_)
  · replace h := uu_pos c1 h
    refine uu_lconst (v := 0) dX11_reply_9 (by decide) ?_
    refine uu_goto (tgt := 22) dX11_reply_10 (by decide) ?_
    have hr := Option.some.inj h
    subst hr
    exact uu_lret rfl dX11_reply_22
  · replace h := uu_neg c1 h
    refine uu_iload_n dX11_reply_4 rfl (List.mem_of_getElem? (i := 1) rfl) ?_
    refine uu_iconst (v := 4) dX11_reply_5 (by decide) ?_
    refine uu_icmp_le (tgt := 13) dX11_reply_6 (by decide) (fun c2 => ?_) (fun c2 => ?_)
    · replace h := uu_pos c2 h
      refine uu_aload_n dX11_reply_13 rfl (List.mem_of_getElem? (i := 0) rfl) ?_
      refine uu_geta (ci := 11) (N := 17) fX11_15 (by decide) so_0.is (by decide) (c := 2) (by decide) dX11_reply_14 ?_
      refine uu_iload_n dX11_reply_17 rfl (List.mem_of_getElem? (i := 1) rfl) ?_
      obtain ⟨j3, e4, h⟩ := uu_ob h
      refine uu_aald (t := 24) rfl (by decide) e4 dX11_reply_18 ?_
      obtain ⟨g5, h⟩ := uu_grd h
      obtain ⟨r6, e7, h⟩ := uu_ob h
      refine uu_cv (d1 := 1) (k := j3) (ci := 5) (T := TX5) (N := 3) (As := []) (st := []) (st' := [.long r6.2]) (xc_X5_take uk g5 e7) g5.is (by decide) rfl kX5_take lX11_130 sX5_take (by decide) (Nat.le_of_ble_eq_true rfl) dX11_reply_19 rfl ?_
      have hr := Option.some.inj h
      subst hr
      exact uu_lret rfl dX11_reply_22
    · replace h := uu_neg c2 h
      refine uu_lconst (v := 0) dX11_reply_9 (by decide) ?_
      refine uu_goto (tgt := 22) dX11_reply_10 (by decide) ?_
      have hr := Option.some.inj h
      subst hr
      exact uu_lret rfl dX11_reply_22
theorem dX11_losePower_14 : decode cX11_losePower 14 = .ok (.iload_n 1, 1) := by decide +kernel
theorem dX11_losePower_15 : decode cX11_losePower 15 = .ok (.iconst 4, 1) := by decide +kernel
theorem dX11_losePower_16 : decode cX11_losePower 16 = .ok (.if_icmp .ge 18, 3) := by decide +kernel
theorem dX11_losePower_34 : decode cX11_losePower 34 = .ok (.return_, 1) := by decide +kernel
theorem dX11_losePower_19 : decode cX11_losePower 19 = .ok (.aload_n 0, 1) := by decide +kernel
theorem dX11_losePower_20 : decode cX11_losePower 20 = .ok (.getfield 21, 3) := by decide +kernel
theorem dX11_losePower_23 : decode cX11_losePower 23 = .ok (.iload_n 1, 1) := by decide +kernel
theorem dX11_losePower_24 : decode cX11_losePower 24 = .ok (.aaload, 1) := by decide +kernel
theorem dX11_losePower_25 : decode cX11_losePower 25 = .ok (.invokevirtual 121, 3) := by decide +kernel
theorem dX11_losePower_28 : decode cX11_losePower 28 = .ok (.iinc 1 1, 3) := by decide +kernel
theorem dX11_losePower_31 : decode cX11_losePower 31 = .ok (.goto (-17), 3) := by decide +kernel
theorem dX11_losePower_0 : decode cX11_losePower 0 = .ok (.aload_n 0, 1) := by decide +kernel
theorem dX11_losePower_1 : decode cX11_losePower 1 = .ok (.iconst 0, 1) := by decide +kernel
theorem dX11_losePower_2 : decode cX11_losePower 2 = .ok (.putfield 44, 3) := by decide +kernel
theorem dX11_losePower_5 : decode cX11_losePower 5 = .ok (.aload_n 0, 1) := by decide +kernel
theorem dX11_losePower_6 : decode cX11_losePower 6 = .ok (.getfield 56, 3) := by decide +kernel
theorem lX11_224 : Cond.methodLink RX11 224 mX0_close.1 ∈ lw_g := h_t6 123 rfl rfl
theorem dX11_losePower_9 : decode cX11_losePower 9 = .ok (.invokevirtual 224, 3) := by decide +kernel
theorem dX11_losePower_12 : decode cX11_losePower 12 = .ok (.iconst 0, 1) := by decide +kernel
theorem dX11_losePower_13 : decode cX11_losePower 13 = .ok (.istore_n 1, 1) := by decide +kernel
def fb_X11_losePower_14 (K14 : Int32 → uS → Option uS) (x1 : Int32) (s : uS) : Option uS := if (4 : Int32) ≤ x1 then (some s) else ((pgt 25 s 3 x1).bind fun j2 => if uSo j2 8 then ((fn_X8_reset j2 s).bind fun s5 => K14 (x1 + 1) s5) else none)
set_option maxRecDepth 100000 in
set_option maxHeartbeats 4000000 in
theorem xb_X11_losePower_14 {l : Launch} {D : va_G} {A : Nat → ClassId} {B : Nat} {Z : State → Heap → Prop} {vF : Value} (uk : uK B Z vF) {K14 : Int32 → uS → Option uS} (hK14 : ∀ (x1 : Int32)  (s : uS) (r : uS), K14 x1 s = some r → GU l D A B Z mX11_losePower 2 (r, none) s 14 [(0, .ref (B + 0)), (1, .int x1)] []) {x1 : Int32} {s : uS} {r : uS}  (h : fb_X11_losePower_14 K14 x1 s = some r) : GU l D A B Z mX11_losePower 2 (r, none) s 14 [(0, .ref (B + 0)), (1, .int x1)] [] := by
  unfold fb_X11_losePower_14 at h
  refine uu_iload_n dX11_losePower_14 rfl (List.mem_of_getElem? (i := 1) rfl) ?_
  refine uu_iconst (v := 4) dX11_losePower_15 (by decide) ?_
  refine uu_icmp_ge (tgt := 34) dX11_losePower_16 (by decide) (fun c1 => ?_) (fun c1 => ?_)
  · replace h := uu_pos c1 h
    have hr := Option.some.inj h
    subst hr
    exact uu_vret rfl dX11_losePower_34
  · replace h := uu_neg c1 h
    refine uu_aload_n dX11_losePower_19 rfl (List.mem_of_getElem? (i := 0) rfl) ?_
    refine uu_geta (ci := 11) (N := 17) fX11_21 (by decide) so_0.is (by decide) (c := 3) (by decide) dX11_losePower_20 ?_
    refine uu_iload_n dX11_losePower_23 rfl (List.mem_of_getElem? (i := 1) rfl) ?_
    obtain ⟨j2, e3, h⟩ := uu_ob h
    refine uu_aald (t := 25) rfl (by decide) e3 dX11_losePower_24 ?_
    obtain ⟨g4, h⟩ := uu_grd h
    obtain ⟨s5, e6, h⟩ := uu_ob h
    refine uu_cv (d1 := 1) (k := j2) (ci := 8) (T := TX8) (N := 8) (As := []) (st := []) (st' := []) (xc_X8_reset uk g4 e6) g4.is (by decide) rfl kX8_reset lX11_121 sX8_reset (by decide) (Nat.le_of_ble_eq_true rfl) dX11_losePower_25 rfl ?_
    refine uu_iinc (v := x1 + 1) dX11_losePower_28 (k := 1) rfl rfl (by decide) rfl ?_
    refine uu_goto (tgt := 14) dX11_losePower_31 (by decide) ?_
    refine uu_lv [1, 0] (lv' := [(0, .ref (B + 0)), (1, .int (x1 + 1))]) rfl ?_
    exact hK14 (x1 + 1) _ _ h
def fn_X11_losePower_14  : Nat → Int32 → uS → Option uS
  | 0 => fun _ _ => none
  | n + 1 => fb_X11_losePower_14 (fn_X11_losePower_14  n)
set_option maxRecDepth 100000 in
set_option maxHeartbeats 4000000 in
theorem xn_X11_losePower_14 {l : Launch} {D : va_G} {A : Nat → ClassId} {B : Nat} {Z : State → Heap → Prop} {vF : Value} (uk : uK B Z vF)   : ∀ (n : Nat) (x1 : Int32)  (s : uS) (r : uS), fn_X11_losePower_14  n x1 s = some r → GU l D A B Z mX11_losePower 2 (r, none) s 14 [(0, .ref (B + 0)), (1, .int x1)] [] := by
  intro n
  induction n with
  | zero => intro x1 s r h
            cases h
  | succ n ih => intro x1 s r h
                 exact xb_X11_losePower_14 uk ih  h
def fn_X11_losePower  (s : uS) : Option uS := (fn_X0_close (wI s 0 16 0)).bind fun s1 => fn_X11_losePower_14 uFu 0 s1
set_option maxRecDepth 100000 in
set_option maxHeartbeats 4000000 in
theorem xc_X11_losePower {l : Launch} {D : va_G} {A : Nat → ClassId} {B : Nat} {Z : State → Heap → Prop} {vF : Value} (uk : uK B Z vF)  {s : uS} {r : uS}  (h : fn_X11_losePower  s = some r) : CU l D A B Z 2 mX11_losePower s [.ref (B + 0)] (r, none) := by
  unfold fn_X11_losePower at h
  refine cu_of rfl uk.1.1 (Nat.le_of_ble_eq_true rfl) ?_
  show GU _ _ _ _ _ _ _ _ _ 0 [(0, .ref (B + 0))] []
  refine uu_aload_n dX11_losePower_0 rfl (List.mem_of_getElem? (i := 0) rfl) ?_
  refine uu_iconst (v := 0) dX11_losePower_1 (by decide) ?_
  refine uu_puti (ft := .boolean) (ci := 11) (N := 17) fX11_44 ptX11 (Or.inl rfl) (by decide) so_0.is (by decide) (by decide) (by decide +kernel) rfl rfl dX11_losePower_2 ?_
  refine uu_aload_n dX11_losePower_5 rfl (List.mem_of_getElem? (i := 0) rfl) ?_
  refine uu_geta (ci := 11) (N := 17) fX11_56 (by decide) so_0.is (by decide) (c := 1042) (by decide) dX11_losePower_6 ?_
  obtain ⟨s1, e2, h⟩ := uu_ob h
  refine uu_cv (d1 := 1) (k := 1042) (ci := 0) (T := TX0) (N := 12) (As := []) (st := []) (st' := []) (xc_X0_close uk  e2) so_1042.is (by decide) rfl kX0_close lX11_224 sX0_close (by decide) (Nat.le_of_ble_eq_true rfl) dX11_losePower_9 rfl ?_
  refine uu_iconst (v := 0) dX11_losePower_12 (by decide) ?_
  refine uu_istore_n dX11_losePower_13 rfl (by decide) rfl ?_
  refine uu_lv [1, 0] (lv' := [(0, .ref (B + 0)), (1, .int 0)]) rfl ?_
  exact xn_X11_losePower_14 uk  _ _ _ _ h
def fn_X11_commit  (s : uS) : Option (uS × Bool) := if (s.I 0 15) = 1 then ((fn_X11_losePower (wI s 0 15 0)).bind fun s2 => some (s2, false)) else (some (wI (wI s 0 15 (if (0 : Int32) < ((s.I 0 15) - 1) then ((s.I 0 15) - 1) else (0 : Int32))) 0 14 (((wI s 0 15 (if (0 : Int32) < ((s.I 0 15) - 1) then ((s.I 0 15) - 1) else (0 : Int32))).I 0 14) + 1), true))
set_option maxRecDepth 100000 in
set_option maxHeartbeats 4000000 in
theorem xc_X11_commit {l : Launch} {D : va_G} {A : Nat → ClassId} {B : Nat} {Z : State → Heap → Prop} {vF : Value} (uk : uK B Z vF)  {s : uS} {r : (uS × Bool)}  (h : fn_X11_commit  s = some r) : CU l D A B Z 3 mX11_commit s [.ref (B + 0)] (r.1, some (.int (bI r.2))) := by
  unfold fn_X11_commit at h
  refine cu_of rfl uk.1.1 (Nat.le_of_ble_eq_true rfl) ?_
  show GU _ _ _ _ _ _ _ _ _ 0 [(0, .ref (B + 0))] []
  refine uu_aload_n dX11_commit_0 rfl (List.mem_of_getElem? (i := 0) rfl) ?_
  refine uu_geti (ci := 11) (N := 17) fX11_140 (by decide) so_0.is (by decide) (by decide) dX11_commit_1 ?_
  refine uu_iconst (v := 1) dX11_commit_4 (by decide) ?_
  refine uu_icmp_ne (tgt := 19) dX11_commit_5 (by decide) (fun c1 => ?_) (fun c1 => ?_)
  · replace h := uu_neg c1 h
    refine uu_aload_n dX11_commit_19 rfl (List.mem_of_getElem? (i := 0) rfl) ?_
    refine uu_iconst (v := 0) dX11_commit_20 (by decide) ?_
    refine uu_aload_n dX11_commit_21 rfl (List.mem_of_getElem? (i := 0) rfl) ?_
    refine uu_geti (ci := 11) (N := 17) fX11_140 (by decide) so_0.is (by decide) (by decide) dX11_commit_22 ?_
    refine uu_iconst (v := 1) dX11_commit_25 (by decide) ?_
    refine uu_isub dX11_commit_26 ?_
    refine uu_mmax lX11_219 (by decide) (Nat.le_of_ble_eq_true rfl) dX11_commit_27 ?_
    refine uu_puti (ft := .int) (ci := 11) (N := 17) fX11_140 ptX11 (Or.inl rfl) (by decide) so_0.is (by decide) (by decide) (by decide +kernel) rfl rfl dX11_commit_30 ?_
    refine uu_aload_n dX11_commit_33 rfl (List.mem_of_getElem? (i := 0) rfl) ?_
    refine uu_dup dX11_commit_34 rfl ?_
    refine uu_geti (ci := 11) (N := 17) fX11_143 (by decide) so_0.is (by decide) (by decide) dX11_commit_35 ?_
    refine uu_iconst (v := 1) dX11_commit_38 (by decide) ?_
    refine uu_iadd dX11_commit_39 ?_
    refine uu_puti (ft := .int) (ci := 11) (N := 17) fX11_143 ptX11 (Or.inl rfl) (by decide) so_0.is (by decide) (by decide) (by decide +kernel) rfl rfl dX11_commit_40 ?_
    refine uu_iconst (v := 1) dX11_commit_43 (by decide) ?_
    have hr := Option.some.inj h
    subst hr
    exact uu_zret (x := bI true) rfl (bI_z _) dX11_commit_44
  · replace h := uu_pos c1 h
    refine uu_aload_n dX11_commit_8 rfl (List.mem_of_getElem? (i := 0) rfl) ?_
    refine uu_iconst (v := 0) dX11_commit_9 (by decide) ?_
    refine uu_puti (ft := .int) (ci := 11) (N := 17) fX11_140 ptX11 (Or.inl rfl) (by decide) so_0.is (by decide) (by decide) (by decide +kernel) rfl rfl dX11_commit_10 ?_
    refine uu_aload_n dX11_commit_13 rfl (List.mem_of_getElem? (i := 0) rfl) ?_
    obtain ⟨s2, e3, h⟩ := uu_ob h
    refine uu_cv (d1 := 2) (k := 0) (ci := 11) (T := TX11) (N := 17) (As := []) (st := []) (st' := []) (xc_X11_losePower uk  e3) so_0.is (by decide) rfl kX11_losePower lX11_216 sX11_losePower (by decide) (Nat.le_of_ble_eq_true rfl) dX11_commit_14 rfl ?_
    refine uu_iconst (v := 0) dX11_commit_17 (by decide) ?_
    have hr := Option.some.inj h
    subst hr
    exact uu_zret (x := bI false) rfl (bI_z _) dX11_commit_18
def fn_X11_tick  (s : uS) : Option (uS × Int32) := if (s.I 0 16) = 0 then (some (s, (-1 : Int32))) else ((fn_X11_commit s).bind fun r2 => if r2.2 = true then (some (wI r2.1 0 13 ((r2.1.I 0 13) + 1), (wI r2.1 0 13 ((r2.1.I 0 13) + 1)).I 0 13)) else (some (r2.1, (-1 : Int32))))
set_option maxRecDepth 100000 in
set_option maxHeartbeats 4000000 in
theorem xc_X11_tick {l : Launch} {D : va_G} {A : Nat → ClassId} {B : Nat} {Z : State → Heap → Prop} {vF : Value} (uk : uK B Z vF)  {s : uS} {r : (uS × Int32)}  (h : fn_X11_tick  s = some r) : CU l D A B Z 4 mX11_tick s [.ref (B + 0)] (r.1, some (.int r.2)) := by
  unfold fn_X11_tick at h
  refine cu_of rfl uk.1.1 (Nat.le_of_ble_eq_true rfl) ?_
  show GU _ _ _ _ _ _ _ _ _ 0 [(0, .ref (B + 0))] []
  refine uu_aload_n dX11_tick_0 rfl (List.mem_of_getElem? (i := 0) rfl) ?_
  refine uu_geti (ci := 11) (N := 17) fX11_44 (by decide) so_0.is (by decide) (by decide) dX11_tick_1 ?_
  refine uu_if_eq (tgt := 14) dX11_tick_4 (by decide) (fun c1 => ?_) (fun c1 => ?_)
  · replace h := uu_pos c1 h
    refine uu_iconst (v := -1) dX11_tick_14 (by decide) ?_
    have hr := Option.some.inj h
    subst hr
    exact uu_iret rfl dX11_tick_15
  · replace h := uu_neg c1 h
    refine uu_aload_n dX11_tick_7 rfl (List.mem_of_getElem? (i := 0) rfl) ?_
    obtain ⟨r2, e3, h⟩ := uu_ob h
    refine uu_cv (d1 := 3) (k := 0) (ci := 11) (T := TX11) (N := 17) (As := []) (st := []) (st' := [.int (bI r2.2)]) (xc_X11_commit uk  e3) so_0.is (by decide) rfl kX11_commit lX11_133 sX11_commit (by decide) (Nat.le_of_ble_eq_true rfl) dX11_tick_8 rfl ?_
    refine uu_ifb_ne (tgt := 16) dX11_tick_11 (by decide) (fun c4 => ?_) (fun c4 => ?_)
    · replace h := uu_pos c4 h
      refine uu_aload_n dX11_tick_16 rfl (List.mem_of_getElem? (i := 0) rfl) ?_
      refine uu_dup dX11_tick_17 rfl ?_
      refine uu_geti (ci := 11) (N := 17) fX11_137 (by decide) so_0.is (by decide) (by decide) dX11_tick_18 ?_
      refine uu_iconst (v := 1) dX11_tick_21 (by decide) ?_
      refine uu_iadd dX11_tick_22 ?_
      refine uu_puti (ft := .int) (ci := 11) (N := 17) fX11_137 ptX11 (Or.inl rfl) (by decide) so_0.is (by decide) (by decide) (by decide +kernel) rfl rfl dX11_tick_23 ?_
      refine uu_aload_n dX11_tick_26 rfl (List.mem_of_getElem? (i := 0) rfl) ?_
      refine uu_geti (ci := 11) (N := 17) fX11_137 (by decide) so_0.is (by decide) (by decide) dX11_tick_27 ?_
      have hr := Option.some.inj h
      subst hr
      exact uu_iret rfl dX11_tick_30
    · replace h := uu_neg c4 h
      refine uu_iconst (v := -1) dX11_tick_14 (by decide) ?_
      have hr := Option.some.inj h
      subst hr
      exact uu_iret rfl dX11_tick_15
def fn_X11_cut (x1 : Int32) (s : uS) : Option (uS × Bool) := if x1 < 0 then (some (s, false)) else (if x1 ≤ 1000 then (some (wI s 0 15 x1, true)) else (some (s, false)))
set_option maxRecDepth 100000 in
set_option maxHeartbeats 4000000 in
theorem xc_X11_cut {l : Launch} {D : va_G} {A : Nat → ClassId} {B : Nat} {Z : State → Heap → Prop} {vF : Value} (uk : uK B Z vF) {x1 : Int32} {s : uS} {r : (uS × Bool)}  (h : fn_X11_cut x1 s = some r) : CU l D A B Z 0 mX11_cut s [.ref (B + 0), .int x1] (r.1, some (.int (bI r.2))) := by
  unfold fn_X11_cut at h
  refine cu_of rfl uk.1.1 (Nat.le_of_ble_eq_true rfl) ?_
  show GU _ _ _ _ _ _ _ _ _ 0 [(0, .ref (B + 0)), (1, .int x1)] []
  refine uu_iload_n dX11_cut_0 rfl (List.mem_of_getElem? (i := 1) rfl) ?_
  refine uu_if_lt (tgt := 11) dX11_cut_1 (by decide) (fun c1 => ?_) (fun c1 => ?_)
  · replace h := uu_pos c1 h
    refine uu_iconst (v := 0) dX11_cut_11 (by decide) ?_
    have hr := Option.some.inj h
    subst hr
    exact uu_zret (x := bI false) rfl (bI_z _) dX11_cut_12
  · replace h := uu_neg c1 h
    refine uu_iload_n dX11_cut_4 rfl (List.mem_of_getElem? (i := 1) rfl) ?_
    refine uu_sipush (v := 1000) dX11_cut_5 (by decide) ?_
    refine uu_icmp_le (tgt := 13) dX11_cut_8 (by decide) (fun c2 => ?_) (fun c2 => ?_)
    · replace h := uu_pos c2 h
      refine uu_aload_n dX11_cut_13 rfl (List.mem_of_getElem? (i := 0) rfl) ?_
      refine uu_iload_n dX11_cut_14 rfl (List.mem_of_getElem? (i := 1) rfl) ?_
      refine uu_puti (ft := .int) (ci := 11) (N := 17) fX11_140 ptX11 (Or.inl rfl) (by decide) so_0.is (by decide) (by decide) (by decide +kernel) rfl rfl dX11_cut_15 ?_
      refine uu_iconst (v := 1) dX11_cut_18 (by decide) ?_
      have hr := Option.some.inj h
      subst hr
      exact uu_zret (x := bI true) rfl (bI_z _) dX11_cut_19
    · replace h := uu_neg c2 h
      refine uu_iconst (v := 0) dX11_cut_11 (by decide) ?_
      have hr := Option.some.inj h
      subst hr
      exact uu_zret (x := bI false) rfl (bI_z _) dX11_cut_12
def fn_X11_start  (s : uS) : Option (uS × Int32) := if (s.I 0 16) = 0 then (some (wI s 0 16 1, (wI s 0 16 1).I 0 14)) else (some (s, (-1 : Int32)))
set_option maxRecDepth 100000 in
set_option maxHeartbeats 4000000 in
theorem xc_X11_start {l : Launch} {D : va_G} {A : Nat → ClassId} {B : Nat} {Z : State → Heap → Prop} {vF : Value} (uk : uK B Z vF)  {s : uS} {r : (uS × Int32)}  (h : fn_X11_start  s = some r) : CU l D A B Z 0 mX11_start s [.ref (B + 0)] (r.1, some (.int r.2)) := by
  unfold fn_X11_start at h
  refine cu_of rfl uk.1.1 (Nat.le_of_ble_eq_true rfl) ?_
  show GU _ _ _ _ _ _ _ _ _ 0 [(0, .ref (B + 0))] []
  refine uu_aload_n dX11_start_0 rfl (List.mem_of_getElem? (i := 0) rfl) ?_
  refine uu_geti (ci := 11) (N := 17) fX11_44 (by decide) so_0.is (by decide) (by decide) dX11_start_1 ?_
  refine uu_if_eq (tgt := 9) dX11_start_4 (by decide) (fun c1 => ?_) (fun c1 => ?_)
  · replace h := uu_pos c1 h
    refine uu_aload_n dX11_start_9 rfl (List.mem_of_getElem? (i := 0) rfl) ?_
    refine uu_iconst (v := 1) dX11_start_10 (by decide) ?_
    refine uu_puti (ft := .boolean) (ci := 11) (N := 17) fX11_44 ptX11 (Or.inl rfl) (by decide) so_0.is (by decide) (by decide) (by decide +kernel) rfl rfl dX11_start_11 ?_
    refine uu_aload_n dX11_start_14 rfl (List.mem_of_getElem? (i := 0) rfl) ?_
    refine uu_geti (ci := 11) (N := 17) fX11_143 (by decide) so_0.is (by decide) (by decide) dX11_start_15 ?_
    have hr := Option.some.inj h
    subst hr
    exact uu_iret rfl dX11_start_18
  · replace h := uu_neg c1 h
    refine uu_iconst (v := -1) dX11_start_7 (by decide) ?_
    have hr := Option.some.inj h
    subst hr
    exact uu_iret rfl dX11_start_8
def fn_X11_hasBox (x1 : Int32) (x2 : Int32) (s : uS) : Option Bool := if x1 < 0 then (some false) else (if (4 : Int32) ≤ x1 then (some false) else (if x2 < 0 then (some false) else ((pgt 26 s 4 x1).bind fun j4 => if uSo j4 10 then (if (s.I (j4 + 3) 3) ≤ x2 then (some false) else (some true)) else none)))
set_option maxRecDepth 100000 in
set_option maxHeartbeats 4000000 in
theorem xc_X11_hasBox {l : Launch} {D : va_G} {A : Nat → ClassId} {B : Nat} {Z : State → Heap → Prop} {vF : Value} (uk : uK B Z vF) {x1 : Int32} {x2 : Int32} {s : uS} {r : Bool}  (h : fn_X11_hasBox x1 x2 s = some r) : CU l D A B Z 0 mX11_hasBox s [.ref (B + 0), .int x1, .int x2] (s, some (.int (bI r))) := by
  unfold fn_X11_hasBox at h
  refine cu_of rfl uk.1.1 (Nat.le_of_ble_eq_true rfl) ?_
  show GU _ _ _ _ _ _ _ _ _ 0 [(0, .ref (B + 0)), (1, .int x1), (2, .int x2)] []
  refine uu_iload_n dX11_hasBox_0 rfl (List.mem_of_getElem? (i := 1) rfl) ?_
  refine uu_if_lt (tgt := 33) dX11_hasBox_1 (by decide) (fun c1 => ?_) (fun c1 => ?_)
  · replace h := uu_pos c1 h
    refine uu_iconst (v := 0) dX11_hasBox_33 (by decide) ?_
    have hr := Option.some.inj h
    subst hr
    exact uu_zret (x := bI false) rfl (bI_z _) dX11_hasBox_34
  · replace h := uu_neg c1 h
    refine uu_iload_n dX11_hasBox_4 rfl (List.mem_of_getElem? (i := 1) rfl) ?_
    refine uu_iconst (v := 4) dX11_hasBox_5 (by decide) ?_
    refine uu_icmp_ge (tgt := 33) dX11_hasBox_6 (by decide) (fun c2 => ?_) (fun c2 => ?_)
    · replace h := uu_pos c2 h
      refine uu_iconst (v := 0) dX11_hasBox_33 (by decide) ?_
      have hr := Option.some.inj h
      subst hr
      exact uu_zret (x := bI false) rfl (bI_z _) dX11_hasBox_34
    · replace h := uu_neg c2 h
      refine uu_iload_n dX11_hasBox_9 rfl (List.mem_of_getElem? (i := 2) rfl) ?_
      refine uu_if_lt (tgt := 33) dX11_hasBox_10 (by decide) (fun c3 => ?_) (fun c3 => ?_)
      · replace h := uu_pos c3 h
        refine uu_iconst (v := 0) dX11_hasBox_33 (by decide) ?_
        have hr := Option.some.inj h
        subst hr
        exact uu_zret (x := bI false) rfl (bI_z _) dX11_hasBox_34
      · replace h := uu_neg c3 h
        refine uu_iload_n dX11_hasBox_13 rfl (List.mem_of_getElem? (i := 2) rfl) ?_
        refine uu_aload_n dX11_hasBox_14 rfl (List.mem_of_getElem? (i := 0) rfl) ?_
        refine uu_geta (ci := 11) (N := 17) fX11_27 (by decide) so_0.is (by decide) (c := 4) (by decide) dX11_hasBox_15 ?_
        refine uu_iload_n dX11_hasBox_18 rfl (List.mem_of_getElem? (i := 1) rfl) ?_
        obtain ⟨j4, e5, h⟩ := uu_ob h
        refine uu_aald (t := 26) rfl (by decide) e5 dX11_hasBox_19 ?_
        obtain ⟨g6, h⟩ := uu_grd h
        refine uu_getc (ci := 10) (N := 6) fX11_176 (by decide) g6.is (by decide) (c := 3) (by decide) (k2 := j4 + 3) rfl dX11_hasBox_20 ?_
        refine uu_geti (ci := 9) (N := 6) fX11_207 (by decide) (so_boxes g6).is (by decide) (by decide) dX11_hasBox_23 ?_
        refine uu_icmp_ge (tgt := 33) dX11_hasBox_26 (by decide) (fun c7 => ?_) (fun c7 => ?_)
        · replace h := uu_pos c7 h
          refine uu_iconst (v := 0) dX11_hasBox_33 (by decide) ?_
          have hr := Option.some.inj h
          subst hr
          exact uu_zret (x := bI false) rfl (bI_z _) dX11_hasBox_34
        · replace h := uu_neg c7 h
          refine uu_iconst (v := 1) dX11_hasBox_29 (by decide) ?_
          refine uu_goto (tgt := 34) dX11_hasBox_30 (by decide) ?_
          have hr := Option.some.inj h
          subst hr
          exact uu_zret (x := bI true) rfl (bI_z _) dX11_hasBox_34
def fn_X11_isIn (x1 : Int32) (x2 : Int32) (x3 : Int32) (s : uS) : Option Bool := (pgt 27 s 5 x1).bind fun j1 => if uIs s j1 1 then (if (s.I j1 2) = x2 then ((pgt 27 s 5 x1).bind fun j5 => if uIs s j5 1 then (if (s.I j5 3) = x3 then (some true) else (some false)) else none) else (some false)) else none
set_option maxRecDepth 100000 in
set_option maxHeartbeats 4000000 in
theorem xc_X11_isIn {l : Launch} {D : va_G} {A : Nat → ClassId} {B : Nat} {Z : State → Heap → Prop} {vF : Value} (uk : uK B Z vF) {x1 : Int32} {x2 : Int32} {x3 : Int32} {s : uS} {r : Bool}  (h : fn_X11_isIn x1 x2 x3 s = some r) : CU l D A B Z 0 mX11_isIn s [.ref (B + 0), .int x1, .int x2, .int x3] (s, some (.int (bI r))) := by
  unfold fn_X11_isIn at h
  refine cu_of rfl uk.1.1 (Nat.le_of_ble_eq_true rfl) ?_
  show GU _ _ _ _ _ _ _ _ _ 0 [(0, .ref (B + 0)), (1, .int x1), (2, .int x2), (3, .int x3)] []
  refine uu_aload_n dX11_isIn_0 rfl (List.mem_of_getElem? (i := 0) rfl) ?_
  refine uu_geta (ci := 11) (N := 17) fX11_33 (by decide) so_0.is (by decide) (c := 5) (by decide) dX11_isIn_1 ?_
  refine uu_iload_n dX11_isIn_4 rfl (List.mem_of_getElem? (i := 1) rfl) ?_
  obtain ⟨j1, e2, h⟩ := uu_ob h
  refine uu_aald (t := 27) rfl (by decide) e2 dX11_isIn_5 ?_
  obtain ⟨g3, h⟩ := uu_grd h
  refine uu_geti (ci := 1) (N := 6) fX11_210 (by decide) g3 (by decide) (by decide) dX11_isIn_6 ?_
  refine uu_iload_n dX11_isIn_9 rfl (List.mem_of_getElem? (i := 2) rfl) ?_
  refine uu_icmp_ne (tgt := 30) dX11_isIn_10 (by decide) (fun c4 => ?_) (fun c4 => ?_)
  · replace h := uu_neg c4 h
    refine uu_iconst (v := 0) dX11_isIn_30 (by decide) ?_
    have hr := Option.some.inj h
    subst hr
    exact uu_zret (x := bI false) rfl (bI_z _) dX11_isIn_31
  · replace h := uu_pos c4 h
    refine uu_aload_n dX11_isIn_13 rfl (List.mem_of_getElem? (i := 0) rfl) ?_
    refine uu_geta (ci := 11) (N := 17) fX11_33 (by decide) so_0.is (by decide) (c := 5) (by decide) dX11_isIn_14 ?_
    refine uu_iload_n dX11_isIn_17 rfl (List.mem_of_getElem? (i := 1) rfl) ?_
    obtain ⟨j5, e6, h⟩ := uu_ob h
    refine uu_aald (t := 27) rfl (by decide) e6 dX11_isIn_18 ?_
    obtain ⟨g7, h⟩ := uu_grd h
    refine uu_geti (ci := 1) (N := 6) fX11_213 (by decide) g7 (by decide) (by decide) dX11_isIn_19 ?_
    refine uu_iload_n dX11_isIn_22 rfl (List.mem_of_getElem? (i := 3) rfl) ?_
    refine uu_icmp_ne (tgt := 30) dX11_isIn_23 (by decide) (fun c8 => ?_) (fun c8 => ?_)
    · replace h := uu_neg c8 h
      refine uu_iconst (v := 0) dX11_isIn_30 (by decide) ?_
      have hr := Option.some.inj h
      subst hr
      exact uu_zret (x := bI false) rfl (bI_z _) dX11_isIn_31
    · replace h := uu_pos c8 h
      refine uu_iconst (v := 1) dX11_isIn_26 (by decide) ?_
      refine uu_goto (tgt := 31) dX11_isIn_27 (by decide) ?_
      have hr := Option.some.inj h
      subst hr
      exact uu_zret (x := bI true) rfl (bI_z _) dX11_isIn_31
def fb_X11_messages_16 (K16 : Int32 → Int32 → Int32 → Int32 → uS → Option Int32) (x1 : Int32) (x2 : Int32) (x3 : Int32) (x4 : Int32) (s : uS) : Option Int32 := if (s.I 0 10) ≤ x4 then (some x3) else ((fn_X11_isIn x4 x1 x2 s).bind fun v2 => if v2 = true then (K16 x1 x2 (x3 + 1) (x4 + 1) s) else (K16 x1 x2 x3 (x4 + 1) s))
set_option maxRecDepth 100000 in
set_option maxHeartbeats 4000000 in
theorem xb_X11_messages_16 {l : Launch} {D : va_G} {A : Nat → ClassId} {B : Nat} {Z : State → Heap → Prop} {vF : Value} (uk : uK B Z vF) {K16 : Int32 → Int32 → Int32 → Int32 → uS → Option Int32} (hK16 : ∀ (x1 : Int32) (x2 : Int32) (x3 : Int32) (x4 : Int32)  (s : uS) (r : Int32), K16 x1 x2 x3 x4 s = some r → GU l D A B Z mX11_messages 1 (s, some (.int r)) s 16 [(0, .ref (B + 0)), (1, .int x1), (2, .int x2), (3, .int x3), (4, .int x4)] []) {x1 : Int32} {x2 : Int32} {x3 : Int32} {x4 : Int32} {s : uS} {r : Int32}  (h : fb_X11_messages_16 K16 x1 x2 x3 x4 s = some r) : GU l D A B Z mX11_messages 1 (s, some (.int r)) s 16 [(0, .ref (B + 0)), (1, .int x1), (2, .int x2), (3, .int x3), (4, .int x4)] [] := by
  unfold fb_X11_messages_16 at h
  refine uu_iload dX11_messages_16 (List.mem_of_getElem? (i := 4) rfl) ?_
  refine uu_aload_n dX11_messages_18 rfl (List.mem_of_getElem? (i := 0) rfl) ?_
  refine uu_geti (ci := 11) (N := 17) fX11_150 (by decide) so_0.is (by decide) (by decide) dX11_messages_19 ?_
  refine uu_icmp_ge (tgt := 45) dX11_messages_22 (by decide) (fun c1 => ?_) (fun c1 => ?_)
  · replace h := uu_pos c1 h
    refine uu_iload_n dX11_messages_45 rfl (List.mem_of_getElem? (i := 3) rfl) ?_
    have hr := Option.some.inj h
    subst hr
    exact uu_iret rfl dX11_messages_46
  · replace h := uu_neg c1 h
    refine uu_aload_n dX11_messages_25 rfl (List.mem_of_getElem? (i := 0) rfl) ?_
    refine uu_iload dX11_messages_26 (List.mem_of_getElem? (i := 4) rfl) ?_
    refine uu_iload_n dX11_messages_28 rfl (List.mem_of_getElem? (i := 1) rfl) ?_
    refine uu_iload_n dX11_messages_29 rfl (List.mem_of_getElem? (i := 2) rfl) ?_
    obtain ⟨v2, e3, h⟩ := uu_ob h
    refine uu_cv (d1 := 0) (k := 0) (ci := 11) (T := TX11) (N := 17) (As := [.int x4, .int x1, .int x2]) (st := []) (st' := [.int (bI v2)]) (xc_X11_isIn uk  e3) so_0.is (by decide) rfl kX11_isIn lX11_153 sX11_isIn (by decide) (Nat.le_of_ble_eq_true rfl) dX11_messages_30 rfl ?_
    refine uu_ifb_eq (tgt := 39) dX11_messages_33 (by decide) (fun c4 => ?_) (fun c4 => ?_)
    · replace h := uu_neg c4 h
      refine uu_iinc (v := x4 + 1) dX11_messages_39 (k := 4) rfl rfl (by decide) rfl ?_
      refine uu_goto (tgt := 16) dX11_messages_42 (by decide) ?_
      refine uu_lv [1, 2, 3, 4, 0] (lv' := [(0, .ref (B + 0)), (1, .int x1), (2, .int x2), (3, .int x3), (4, .int (x4 + 1))]) rfl ?_
      exact hK16 x1 x2 x3 (x4 + 1) _ _ h
    · replace h := uu_pos c4 h
      refine uu_iinc (v := x3 + 1) dX11_messages_36 (k := 3) rfl rfl (by decide) rfl ?_
      refine uu_iinc (v := x4 + 1) dX11_messages_39 (k := 4) rfl rfl (by decide) rfl ?_
      refine uu_goto (tgt := 16) dX11_messages_42 (by decide) ?_
      refine uu_lv [2, 3, 4, 1, 0] (lv' := [(0, .ref (B + 0)), (1, .int x1), (2, .int x2), (3, .int (x3 + 1)), (4, .int (x4 + 1))]) rfl ?_
      exact hK16 x1 x2 (x3 + 1) (x4 + 1) _ _ h
def fn_X11_messages_16  : Nat → Int32 → Int32 → Int32 → Int32 → uS → Option Int32
  | 0 => fun _ _ _ _ _ => none
  | n + 1 => fb_X11_messages_16 (fn_X11_messages_16  n)
set_option maxRecDepth 100000 in
set_option maxHeartbeats 4000000 in
theorem xn_X11_messages_16 {l : Launch} {D : va_G} {A : Nat → ClassId} {B : Nat} {Z : State → Heap → Prop} {vF : Value} (uk : uK B Z vF)   : ∀ (n : Nat) (x1 : Int32) (x2 : Int32) (x3 : Int32) (x4 : Int32)  (s : uS) (r : Int32), fn_X11_messages_16  n x1 x2 x3 x4 s = some r → GU l D A B Z mX11_messages 1 (s, some (.int r)) s 16 [(0, .ref (B + 0)), (1, .int x1), (2, .int x2), (3, .int x3), (4, .int x4)] [] := by
  intro n
  induction n with
  | zero => intro x1 x2 x3 x4 s r h
            cases h
  | succ n ih => intro x1 x2 x3 x4 s r h
                 exact xb_X11_messages_16 uk ih  h
def fn_X11_messages (x1 : Int32) (x2 : Int32) (s : uS) : Option Int32 := (fn_X11_hasBox x1 x2 s).bind fun v1 => if v1 = true then (fn_X11_messages_16 uFu x1 x2 0 0 s) else (some (-1 : Int32))
set_option maxRecDepth 100000 in
set_option maxHeartbeats 4000000 in
theorem xc_X11_messages {l : Launch} {D : va_G} {A : Nat → ClassId} {B : Nat} {Z : State → Heap → Prop} {vF : Value} (uk : uK B Z vF) {x1 : Int32} {x2 : Int32} {s : uS} {r : Int32}  (h : fn_X11_messages x1 x2 s = some r) : CU l D A B Z 1 mX11_messages s [.ref (B + 0), .int x1, .int x2] (s, some (.int r)) := by
  unfold fn_X11_messages at h
  refine cu_of rfl uk.1.1 (Nat.le_of_ble_eq_true rfl) ?_
  show GU _ _ _ _ _ _ _ _ _ 0 [(0, .ref (B + 0)), (1, .int x1), (2, .int x2)] []
  refine uu_aload_n dX11_messages_0 rfl (List.mem_of_getElem? (i := 0) rfl) ?_
  refine uu_iload_n dX11_messages_1 rfl (List.mem_of_getElem? (i := 1) rfl) ?_
  refine uu_iload_n dX11_messages_2 rfl (List.mem_of_getElem? (i := 2) rfl) ?_
  obtain ⟨v1, e2, h⟩ := uu_ob h
  refine uu_cv (d1 := 0) (k := 0) (ci := 11) (T := TX11) (N := 17) (As := [.int x1, .int x2]) (st := []) (st' := [.int (bI v1)]) (xc_X11_hasBox uk  e2) so_0.is (by decide) rfl kX11_hasBox lX11_146 sX11_hasBox (by decide) (Nat.le_of_ble_eq_true rfl) dX11_messages_3 rfl ?_
  refine uu_ifb_ne (tgt := 11) dX11_messages_6 (by decide) (fun c3 => ?_) (fun c3 => ?_)
  · replace h := uu_pos c3 h
    refine uu_iconst (v := 0) dX11_messages_11 (by decide) ?_
    refine uu_istore_n dX11_messages_12 rfl (by decide) rfl ?_
    refine uu_iconst (v := 0) dX11_messages_13 (by decide) ?_
    refine uu_istore dX11_messages_14 (by decide) rfl ?_
    refine uu_lv [2, 3, 4, 1, 0] (lv' := [(0, .ref (B + 0)), (1, .int x1), (2, .int x2), (3, .int 0), (4, .int 0)]) rfl ?_
    exact xn_X11_messages_16 uk  _ _ _ _ _ _ _ h
  · replace h := uu_neg c3 h
    refine uu_iconst (v := -1) dX11_messages_9 (by decide) ?_
    have hr := Option.some.inj h
    subst hr
    exact uu_iret rfl dX11_messages_10
def fb_X11_numberOf_6 (K6 : Int32 → Int32 → Int32 → Int32 → uS → Option Int32) (x1 : Int32) (x2 : Int32) (x4 : Int32) (x5 : Int32) (s : uS) : Option Int32 := if (s.I 0 10) ≤ x5 then (some (-1 : Int32)) else (if x4 < 0 then (some (-1 : Int32)) else ((fn_X11_isIn x5 x1 x2 s).bind fun v3 => if v3 = true then (if x4 = 0 then (some x5) else (K6 x1 x2 (x4 + (-1)) (x5 + 1) s)) else (K6 x1 x2 x4 (x5 + 1) s)))
set_option maxRecDepth 100000 in
set_option maxHeartbeats 4000000 in
theorem xb_X11_numberOf_6 {l : Launch} {D : va_G} {A : Nat → ClassId} {B : Nat} {Z : State → Heap → Prop} {vF : Value} (uk : uK B Z vF) {K6 : Int32 → Int32 → Int32 → Int32 → uS → Option Int32} (hK6 : ∀ (x1 : Int32) (x2 : Int32) (x4 : Int32) (x5 : Int32)  (s : uS) (r : Int32), K6 x1 x2 x4 x5 s = some r → GU l D A B Z mX11_numberOf 1 (s, some (.int r)) s 6 [(0, .ref (B + 0)), (1, .int x1), (2, .int x2), (4, .int x4), (5, .int x5)] []) {x1 : Int32} {x2 : Int32} {x4 : Int32} {x5 : Int32} {s : uS} {r : Int32}  (h : fb_X11_numberOf_6 K6 x1 x2 x4 x5 s = some r) : GU l D A B Z mX11_numberOf 1 (s, some (.int r)) s 6 [(0, .ref (B + 0)), (1, .int x1), (2, .int x2), (4, .int x4), (5, .int x5)] [] := by
  unfold fb_X11_numberOf_6 at h
  refine uu_iload dX11_numberOf_6 (List.mem_of_getElem? (i := 4) rfl) ?_
  refine uu_aload_n dX11_numberOf_8 rfl (List.mem_of_getElem? (i := 0) rfl) ?_
  refine uu_geti (ci := 11) (N := 17) fX11_150 (by decide) so_0.is (by decide) (by decide) dX11_numberOf_9 ?_
  refine uu_icmp_ge (tgt := 48) dX11_numberOf_12 (by decide) (fun c1 => ?_) (fun c1 => ?_)
  · replace h := uu_pos c1 h
    refine uu_iconst (v := -1) dX11_numberOf_48 (by decide) ?_
    have hr := Option.some.inj h
    subst hr
    exact uu_iret rfl dX11_numberOf_49
  · replace h := uu_neg c1 h
    refine uu_iload dX11_numberOf_15 (List.mem_of_getElem? (i := 3) rfl) ?_
    refine uu_if_lt (tgt := 48) dX11_numberOf_17 (by decide) (fun c2 => ?_) (fun c2 => ?_)
    · replace h := uu_pos c2 h
      refine uu_iconst (v := -1) dX11_numberOf_48 (by decide) ?_
      have hr := Option.some.inj h
      subst hr
      exact uu_iret rfl dX11_numberOf_49
    · replace h := uu_neg c2 h
      refine uu_aload_n dX11_numberOf_20 rfl (List.mem_of_getElem? (i := 0) rfl) ?_
      refine uu_iload dX11_numberOf_21 (List.mem_of_getElem? (i := 4) rfl) ?_
      refine uu_iload_n dX11_numberOf_23 rfl (List.mem_of_getElem? (i := 1) rfl) ?_
      refine uu_iload_n dX11_numberOf_24 rfl (List.mem_of_getElem? (i := 2) rfl) ?_
      obtain ⟨v3, e4, h⟩ := uu_ob h
      refine uu_cv (d1 := 0) (k := 0) (ci := 11) (T := TX11) (N := 17) (As := [.int x5, .int x1, .int x2]) (st := []) (st' := [.int (bI v3)]) (xc_X11_isIn uk  e4) so_0.is (by decide) rfl kX11_isIn lX11_153 sX11_isIn (by decide) (Nat.le_of_ble_eq_true rfl) dX11_numberOf_25 rfl ?_
      refine uu_ifb_eq (tgt := 42) dX11_numberOf_28 (by decide) (fun c5 => ?_) (fun c5 => ?_)
      · replace h := uu_neg c5 h
        refine uu_iinc (v := x5 + 1) dX11_numberOf_42 (k := 4) rfl rfl (by decide) rfl ?_
        refine uu_goto (tgt := 6) dX11_numberOf_45 (by decide) ?_
        refine uu_lv [1, 2, 3, 4, 0] (lv' := [(0, .ref (B + 0)), (1, .int x1), (2, .int x2), (4, .int x4), (5, .int (x5 + 1))]) rfl ?_
        exact hK6 x1 x2 x4 (x5 + 1) _ _ h
      · replace h := uu_pos c5 h
        refine uu_iload dX11_numberOf_31 (List.mem_of_getElem? (i := 3) rfl) ?_
        refine uu_if_ne (tgt := 39) dX11_numberOf_33 (by decide) (fun c6 => ?_) (fun c6 => ?_)
        · replace h := uu_neg c6 h
          refine uu_iinc (v := x4 + (-1)) dX11_numberOf_39 (k := 3) rfl rfl (by decide) rfl ?_
          refine uu_iinc (v := x5 + 1) dX11_numberOf_42 (k := 4) rfl rfl (by decide) rfl ?_
          refine uu_goto (tgt := 6) dX11_numberOf_45 (by decide) ?_
          refine uu_lv [2, 3, 4, 1, 0] (lv' := [(0, .ref (B + 0)), (1, .int x1), (2, .int x2), (4, .int (x4 + (-1))), (5, .int (x5 + 1))]) rfl ?_
          exact hK6 x1 x2 (x4 + (-1)) (x5 + 1) _ _ h
        · replace h := uu_pos c6 h
          refine uu_iload dX11_numberOf_36 (List.mem_of_getElem? (i := 4) rfl) ?_
          have hr := Option.some.inj h
          subst hr
          exact uu_iret rfl dX11_numberOf_38
def fn_X11_numberOf_6  : Nat → Int32 → Int32 → Int32 → Int32 → uS → Option Int32
  | 0 => fun _ _ _ _ _ => none
  | n + 1 => fb_X11_numberOf_6 (fn_X11_numberOf_6  n)
set_option maxRecDepth 100000 in
set_option maxHeartbeats 4000000 in
theorem xn_X11_numberOf_6 {l : Launch} {D : va_G} {A : Nat → ClassId} {B : Nat} {Z : State → Heap → Prop} {vF : Value} (uk : uK B Z vF)   : ∀ (n : Nat) (x1 : Int32) (x2 : Int32) (x4 : Int32) (x5 : Int32)  (s : uS) (r : Int32), fn_X11_numberOf_6  n x1 x2 x4 x5 s = some r → GU l D A B Z mX11_numberOf 1 (s, some (.int r)) s 6 [(0, .ref (B + 0)), (1, .int x1), (2, .int x2), (4, .int x4), (5, .int x5)] [] := by
  intro n
  induction n with
  | zero => intro x1 x2 x4 x5 s r h
            cases h
  | succ n ih => intro x1 x2 x4 x5 s r h
                 exact xb_X11_numberOf_6 uk ih  h
def fn_X11_numberOf (x1 : Int32) (x2 : Int32) (x3 : Int32) (s : uS) : Option Int32 := fn_X11_numberOf_6 uFu x1 x2 x3 0 s
set_option maxRecDepth 100000 in
set_option maxHeartbeats 4000000 in
theorem xc_X11_numberOf {l : Launch} {D : va_G} {A : Nat → ClassId} {B : Nat} {Z : State → Heap → Prop} {vF : Value} (uk : uK B Z vF) {x1 : Int32} {x2 : Int32} {x3 : Int32} {s : uS} {r : Int32}  (h : fn_X11_numberOf x1 x2 x3 s = some r) : CU l D A B Z 1 mX11_numberOf s [.ref (B + 0), .int x1, .int x2, .int x3] (s, some (.int r)) := by
  unfold fn_X11_numberOf at h
  refine cu_of rfl uk.1.1 (Nat.le_of_ble_eq_true rfl) ?_
  show GU _ _ _ _ _ _ _ _ _ 0 [(0, .ref (B + 0)), (1, .int x1), (2, .int x2), (3, .int x3)] []
  refine uu_iload_n dX11_numberOf_0 rfl (List.mem_of_getElem? (i := 3) rfl) ?_
  refine uu_istore dX11_numberOf_1 (by decide) rfl ?_
  refine uu_iconst (v := 0) dX11_numberOf_3 (by decide) ?_
  refine uu_istore dX11_numberOf_4 (by decide) rfl ?_
  refine uu_lv [2, 3, 4, 1, 0] (lv' := [(0, .ref (B + 0)), (1, .int x1), (2, .int x2), (4, .int x3), (5, .int 0)]) rfl ?_
  exact xn_X11_numberOf_6 uk  _ _ _ _ _ _ _ h
def fn_X11_message (x1 : Int32) (x2 : Int32) (x3 : Int32) (x4 : Int32) (s : uS) : Option Int32 := (fn_X11_hasBox x1 x2 s).bind fun v1 => if v1 = true then (if x4 < 0 then (some (-1 : Int32)) else (if x4 ≤ 2 then ((fn_X11_numberOf x1 x2 x3 s).bind fun v6 => if 0 ≤ v6 then ((pgt 27 s 5 v6).bind fun j9 => if x4 = 0 then (if uIs s j9 1 then ((s.R j9 1).bind fun j15 => (ulen s j15).bind fun v17 => some v17) else none) else (if x4 = 1 then (if uIs s j9 1 then (some (s.I j9 4)) else none) else (some v6))) else (some (-1 : Int32))) else (some (-1 : Int32)))) else (some (-1 : Int32))
set_option maxRecDepth 100000 in
set_option maxHeartbeats 4000000 in
theorem xc_X11_message {l : Launch} {D : va_G} {A : Nat → ClassId} {B : Nat} {Z : State → Heap → Prop} {vF : Value} (uk : uK B Z vF) {x1 : Int32} {x2 : Int32} {x3 : Int32} {x4 : Int32} {s : uS} {r : Int32}  (h : fn_X11_message x1 x2 x3 x4 s = some r) : CU l D A B Z 2 mX11_message s [.ref (B + 0), .int x1, .int x2, .int x3, .int x4] (s, some (.int r)) := by
  unfold fn_X11_message at h
  refine cu_of rfl uk.1.1 (Nat.le_of_ble_eq_true rfl) ?_
  show GU _ _ _ _ _ _ _ _ _ 0 [(0, .ref (B + 0)), (1, .int x1), (2, .int x2), (3, .int x3), (4, .int x4)] []
  refine uu_aload_n dX11_message_0 rfl (List.mem_of_getElem? (i := 0) rfl) ?_
  refine uu_iload_n dX11_message_1 rfl (List.mem_of_getElem? (i := 1) rfl) ?_
  refine uu_iload_n dX11_message_2 rfl (List.mem_of_getElem? (i := 2) rfl) ?_
  obtain ⟨v1, e2, h⟩ := uu_ob h
  refine uu_cv (d1 := 0) (k := 0) (ci := 11) (T := TX11) (N := 17) (As := [.int x1, .int x2]) (st := []) (st' := [.int (bI v1)]) (xc_X11_hasBox uk  e2) so_0.is (by decide) rfl kX11_hasBox lX11_146 sX11_hasBox (by decide) (Nat.le_of_ble_eq_true rfl) dX11_message_3 rfl ?_
  refine uu_ifb_eq (tgt := 20) dX11_message_6 (by decide) (fun c3 => ?_) (fun c3 => ?_)
  · replace h := uu_neg c3 h
    refine uu_iconst (v := -1) dX11_message_20 (by decide) ?_
    have hr := Option.some.inj h
    subst hr
    exact uu_iret rfl dX11_message_21
  · replace h := uu_pos c3 h
    refine uu_iload dX11_message_9 (List.mem_of_getElem? (i := 4) rfl) ?_
    refine uu_if_lt (tgt := 20) dX11_message_11 (by decide) (fun c4 => ?_) (fun c4 => ?_)
    · replace h := uu_pos c4 h
      refine uu_iconst (v := -1) dX11_message_20 (by decide) ?_
      have hr := Option.some.inj h
      subst hr
      exact uu_iret rfl dX11_message_21
    · replace h := uu_neg c4 h
      refine uu_iload dX11_message_14 (List.mem_of_getElem? (i := 4) rfl) ?_
      refine uu_iconst (v := 2) dX11_message_16 (by decide) ?_
      refine uu_icmp_le (tgt := 22) dX11_message_17 (by decide) (fun c5 => ?_) (fun c5 => ?_)
      · replace h := uu_pos c5 h
        refine uu_aload_n dX11_message_22 rfl (List.mem_of_getElem? (i := 0) rfl) ?_
        refine uu_iload_n dX11_message_23 rfl (List.mem_of_getElem? (i := 1) rfl) ?_
        refine uu_iload_n dX11_message_24 rfl (List.mem_of_getElem? (i := 2) rfl) ?_
        refine uu_iload_n dX11_message_25 rfl (List.mem_of_getElem? (i := 3) rfl) ?_
        obtain ⟨v6, e7, h⟩ := uu_ob h
        refine uu_cv (d1 := 1) (k := 0) (ci := 11) (T := TX11) (N := 17) (As := [.int x1, .int x2, .int x3]) (st := []) (st' := [.int v6]) (xc_X11_numberOf uk  e7) so_0.is (by decide) rfl kX11_numberOf lX11_157 sX11_numberOf (by decide) (Nat.le_of_ble_eq_true rfl) dX11_message_26 rfl ?_
        refine uu_istore dX11_message_29 (by decide) rfl ?_
        refine uu_iload dX11_message_31 (List.mem_of_getElem? (i := 0) rfl) ?_
        refine uu_if_ge (tgt := 38) dX11_message_33 (by decide) (fun c8 => ?_) (fun c8 => ?_)
        · replace h := uu_pos c8 h
          refine uu_aload_n dX11_message_38 rfl (List.mem_of_getElem? (i := 1) rfl) ?_
          refine uu_geta (ci := 11) (N := 17) fX11_33 (by decide) so_0.is (by decide) (c := 5) (by decide) dX11_message_39 ?_
          refine uu_iload dX11_message_42 (List.mem_of_getElem? (i := 0) rfl) ?_
          obtain ⟨j9, e10, h⟩ := uu_ob h
          refine uu_aald (t := 27) rfl (by decide) e10 dX11_message_44 ?_
          refine uu_astore dX11_message_45 (by decide) rfl ?_
          refine uu_iload dX11_message_47 (List.mem_of_getElem? (i := 6) rfl) ?_
          refine uu_if_ne (tgt := 61) dX11_message_49 (by decide) (fun c11 => ?_) (fun c11 => ?_)
          · replace h := uu_neg c11 h
            refine uu_iload dX11_message_61 (List.mem_of_getElem? (i := 6) rfl) ?_
            refine uu_iconst (v := 1) dX11_message_63 (by decide) ?_
            refine uu_icmp_ne (tgt := 75) dX11_message_64 (by decide) (fun c12 => ?_) (fun c12 => ?_)
            · replace h := uu_neg c12 h
              refine uu_iload dX11_message_75 (List.mem_of_getElem? (i := 1) rfl) ?_
              have hr := Option.some.inj h
              subst hr
              exact uu_iret rfl dX11_message_77
            · replace h := uu_pos c12 h
              refine uu_aload dX11_message_67 (List.mem_of_getElem? (i := 0) rfl) ?_
              obtain ⟨g13, h⟩ := uu_grd h
              refine uu_geti (ci := 1) (N := 6) fX11_164 (by decide) g13 (by decide) (by decide) dX11_message_69 ?_
              refine uu_goto (tgt := 77) dX11_message_72 (by decide) ?_
              have hr := Option.some.inj h
              subst hr
              exact uu_iret rfl dX11_message_77
          · replace h := uu_pos c11 h
            refine uu_aload dX11_message_52 (List.mem_of_getElem? (i := 0) rfl) ?_
            obtain ⟨g14, h⟩ := uu_grd h
            obtain ⟨j15, e16, h⟩ := uu_ob h
            refine uu_getr (ci := 1) (N := 6) fX11_161 (by decide) g14 (by decide) (by decide) e16 dX11_message_54 ?_
            obtain ⟨v17, e18, h⟩ := uu_ob h
            refine uu_alen e18 dX11_message_57 ?_
            refine uu_goto (tgt := 77) dX11_message_58 (by decide) ?_
            have hr := Option.some.inj h
            subst hr
            exact uu_iret rfl dX11_message_77
        · replace h := uu_neg c8 h
          refine uu_iconst (v := -1) dX11_message_36 (by decide) ?_
          have hr := Option.some.inj h
          subst hr
          exact uu_iret rfl dX11_message_37
      · replace h := uu_neg c5 h
        refine uu_iconst (v := -1) dX11_message_20 (by decide) ?_
        have hr := Option.some.inj h
        subst hr
        exact uu_iret rfl dX11_message_21
def fb_X11_eightBytes_34 (K5 : Nat → Int32 → Int32 → Int64 → Int32 → uS → Option Int64) (k0 : Nat) (x1 : Int32) (x2 : Int32) (l3 : Int64) (x5 : Int32) (xs0 : Int32) (s : uS) : Option Int64 := K5 k0 x1 x2 ((l3 <<< ((8 : Int32).toInt64 &&& 63)) ||| xs0.toInt64) (x5 + 1) s
set_option maxRecDepth 100000 in
set_option maxHeartbeats 4000000 in
theorem xb_X11_eightBytes_34 {l : Launch} {D : va_G} {A : Nat → ClassId} {B : Nat} {Z : State → Heap → Prop} {vF : Value} (uk : uK B Z vF) {K5 : Nat → Int32 → Int32 → Int64 → Int32 → uS → Option Int64} (hK5 : ∀ (k0 : Nat) (x1 : Int32) (x2 : Int32) (l3 : Int64) (x5 : Int32)  (s : uS) (r : Int64), K5 k0 x1 x2 l3 x5 s = some r → GU l D A B Z mX11_eightBytes 0 (s, some (.long r)) s 5 [(0, .ref (B + k0)), (1, .int x1), (2, .int x2), (3, .long l3), (5, .int x5)] []) {k0 : Nat} {x1 : Int32} {x2 : Int32} {l3 : Int64} {x5 : Int32} {xs0 : Int32} {s : uS} {r : Int64}  (h : fb_X11_eightBytes_34 K5 k0 x1 x2 l3 x5 xs0 s = some r) : GU l D A B Z mX11_eightBytes 0 (s, some (.long r)) s 34 [(0, .ref (B + k0)), (1, .int x1), (2, .int x2), (3, .long l3), (5, .int x5)] [.int xs0] := by
  unfold fb_X11_eightBytes_34 at h
  refine uu_istore dX11_eightBytes_34 (by decide) rfl ?_
  refine uu_lload_n dX11_eightBytes_36 rfl (List.mem_of_getElem? (i := 4) rfl) ?_
  refine uu_bipush (v := 8) dX11_eightBytes_37 (by decide) ?_
  refine uu_lshl dX11_eightBytes_39 rfl ?_
  refine uu_iload dX11_eightBytes_40 (List.mem_of_getElem? (i := 0) rfl) ?_
  refine uu_i2l dX11_eightBytes_42 rfl ?_
  refine uu_lor dX11_eightBytes_43 ?_
  refine uu_lstore_n dX11_eightBytes_44 rfl (by decide) rfl ?_
  refine uu_iinc (v := x5 + 1) dX11_eightBytes_45 (k := 5) rfl rfl (by decide) rfl ?_
  refine uu_goto (tgt := 5) dX11_eightBytes_48 (by decide) ?_
  refine uu_lv [3, 4, 5, 1, 0] (lv' := [(0, .ref (B + k0)), (1, .int x1), (2, .int x2), (3, .long ((l3 <<< ((8 : Int32).toInt64 &&& 63)) ||| xs0.toInt64)), (5, .int (x5 + 1))]) rfl ?_
  exact hK5 k0 x1 x2 ((l3 <<< ((8 : Int32).toInt64 &&& 63)) ||| xs0.toInt64) (x5 + 1) _ _ h
def fb_X11_eightBytes_5 (K5 : Nat → Int32 → Int32 → Int64 → Int32 → uS → Option Int64) (k0 : Nat) (x1 : Int32) (x2 : Int32) (l3 : Int64) (x5 : Int32) (s : uS) : Option Int64 := if (8 : Int32) ≤ x5 then (some l3) else (if (x2 - x5) ≤ x1 then (fb_X11_eightBytes_34 K5 k0 x1 x2 l3 x5 0 s) else ((iget 21 s k0 (x1 + x5)).bind fun v3 => fb_X11_eightBytes_34 K5 k0 x1 x2 l3 x5 (v3 &&& 255) s))
set_option maxRecDepth 100000 in
set_option maxHeartbeats 4000000 in
theorem xb_X11_eightBytes_5 {l : Launch} {D : va_G} {A : Nat → ClassId} {B : Nat} {Z : State → Heap → Prop} {vF : Value} (uk : uK B Z vF) {K5 : Nat → Int32 → Int32 → Int64 → Int32 → uS → Option Int64} (hK5 : ∀ (k0 : Nat) (x1 : Int32) (x2 : Int32) (l3 : Int64) (x5 : Int32)  (s : uS) (r : Int64), K5 k0 x1 x2 l3 x5 s = some r → GU l D A B Z mX11_eightBytes 0 (s, some (.long r)) s 5 [(0, .ref (B + k0)), (1, .int x1), (2, .int x2), (3, .long l3), (5, .int x5)] []) {k0 : Nat} {x1 : Int32} {x2 : Int32} {l3 : Int64} {x5 : Int32} {s : uS} {r : Int64}  (h : fb_X11_eightBytes_5 K5 k0 x1 x2 l3 x5 s = some r) : GU l D A B Z mX11_eightBytes 0 (s, some (.long r)) s 5 [(0, .ref (B + k0)), (1, .int x1), (2, .int x2), (3, .long l3), (5, .int x5)] [] := by
  unfold fb_X11_eightBytes_5 at h
  refine uu_iload dX11_eightBytes_5 (List.mem_of_getElem? (i := 4) rfl) ?_
  refine uu_bipush (v := 8) dX11_eightBytes_7 (by decide) ?_
  refine uu_icmp_ge (tgt := 51) dX11_eightBytes_9 (by decide) (fun c1 => ?_) (fun c1 => ?_)
  · replace h := uu_pos c1 h
    refine uu_lload_n dX11_eightBytes_51 rfl (List.mem_of_getElem? (i := 3) rfl) ?_
    have hr := Option.some.inj h
    subst hr
    exact uu_lret rfl dX11_eightBytes_52
  · replace h := uu_neg c1 h
    refine uu_iload_n dX11_eightBytes_12 rfl (List.mem_of_getElem? (i := 1) rfl) ?_
    refine uu_iload_n dX11_eightBytes_13 rfl (List.mem_of_getElem? (i := 2) rfl) ?_
    refine uu_iload dX11_eightBytes_14 (List.mem_of_getElem? (i := 4) rfl) ?_
    refine uu_isub dX11_eightBytes_16 ?_
    refine uu_icmp_ge (tgt := 33) dX11_eightBytes_17 (by decide) (fun c2 => ?_) (fun c2 => ?_)
    · replace h := uu_pos c2 h
      refine uu_iconst (v := 0) dX11_eightBytes_33 (by decide) ?_
      exact xb_X11_eightBytes_34 uk hK5 h
    · replace h := uu_neg c2 h
      refine uu_aload_n dX11_eightBytes_20 rfl (List.mem_of_getElem? (i := 0) rfl) ?_
      refine uu_iload_n dX11_eightBytes_21 rfl (List.mem_of_getElem? (i := 1) rfl) ?_
      refine uu_iload dX11_eightBytes_22 (List.mem_of_getElem? (i := 4) rfl) ?_
      refine uu_iadd dX11_eightBytes_24 ?_
      obtain ⟨v3, e4, h⟩ := uu_ob h
      refine uu_bald e4 dX11_eightBytes_25 ?_
      refine uu_sipush (v := 255) dX11_eightBytes_26 (by decide) ?_
      refine uu_iand dX11_eightBytes_29 ?_
      refine uu_goto (tgt := 34) dX11_eightBytes_30 (by decide) ?_
      exact xb_X11_eightBytes_34 uk hK5 h
def fn_X11_eightBytes_5  : Nat → Nat → Int32 → Int32 → Int64 → Int32 → uS → Option Int64
  | 0 => fun _ _ _ _ _ _ => none
  | n + 1 => fb_X11_eightBytes_5 (fn_X11_eightBytes_5  n)
set_option maxRecDepth 100000 in
set_option maxHeartbeats 4000000 in
theorem xn_X11_eightBytes_5 {l : Launch} {D : va_G} {A : Nat → ClassId} {B : Nat} {Z : State → Heap → Prop} {vF : Value} (uk : uK B Z vF)   : ∀ (n : Nat) (k0 : Nat) (x1 : Int32) (x2 : Int32) (l3 : Int64) (x5 : Int32)  (s : uS) (r : Int64), fn_X11_eightBytes_5  n k0 x1 x2 l3 x5 s = some r → GU l D A B Z mX11_eightBytes 0 (s, some (.long r)) s 5 [(0, .ref (B + k0)), (1, .int x1), (2, .int x2), (3, .long l3), (5, .int x5)] [] := by
  intro n
  induction n with
  | zero => intro k0 x1 x2 l3 x5 s r h
            cases h
  | succ n ih => intro k0 x1 x2 l3 x5 s r h
                 exact xb_X11_eightBytes_5 uk ih  h
def fn_X11_eightBytes (k0 : Nat) (x1 : Int32) (x2 : Int32) (s : uS) : Option Int64 := fn_X11_eightBytes_5 uFu k0 x1 x2 0 0 s
set_option maxRecDepth 100000 in
set_option maxHeartbeats 4000000 in
theorem xc_X11_eightBytes {l : Launch} {D : va_G} {A : Nat → ClassId} {B : Nat} {Z : State → Heap → Prop} {vF : Value} (uk : uK B Z vF) {k0 : Nat} {x1 : Int32} {x2 : Int32} {s : uS} {r : Int64}  (h : fn_X11_eightBytes k0 x1 x2 s = some r) : CU l D A B Z 0 mX11_eightBytes s [.ref (B + k0), .int x1, .int x2] (s, some (.long r)) := by
  unfold fn_X11_eightBytes at h
  refine cu_of rfl uk.1.1 (Nat.le_of_ble_eq_true rfl) ?_
  show GU _ _ _ _ _ _ _ _ _ 0 [(0, .ref (B + k0)), (1, .int x1), (2, .int x2)] []
  refine uu_lconst (v := 0) dX11_eightBytes_0 (by decide) ?_
  refine uu_lstore_n dX11_eightBytes_1 rfl (by decide) rfl ?_
  refine uu_iconst (v := 0) dX11_eightBytes_2 (by decide) ?_
  refine uu_istore dX11_eightBytes_3 (by decide) rfl ?_
  refine uu_lv [2, 3, 4, 1, 0] (lv' := [(0, .ref (B + k0)), (1, .int x1), (2, .int x2), (3, .long 0), (5, .int 0)]) rfl ?_
  exact xn_X11_eightBytes_5 uk  _ _ _ _ _ _ _ _ h
def fn_X11_bytes (x1 : Int32) (x2 : Int32) (s : uS) : Option Int64 := if x1 < 0 then (some (-1)) else (if (s.I 0 10) ≤ x1 then (some (-1)) else (if 0 ≤ x2 then ((pgt 27 s 5 x1).bind fun j4 => if uIs s j4 1 then ((s.R j4 1).bind fun j7 => (ulen s j7).bind fun v9 => (fn_X11_eightBytes j7 x2 v9 s).bind fun v11 => some v11) else none) else (some (-1))))
set_option maxRecDepth 100000 in
set_option maxHeartbeats 4000000 in
theorem xc_X11_bytes {l : Launch} {D : va_G} {A : Nat → ClassId} {B : Nat} {Z : State → Heap → Prop} {vF : Value} (uk : uK B Z vF) {x1 : Int32} {x2 : Int32} {s : uS} {r : Int64}  (h : fn_X11_bytes x1 x2 s = some r) : CU l D A B Z 1 mX11_bytes s [.ref (B + 0), .int x1, .int x2] (s, some (.long r)) := by
  unfold fn_X11_bytes at h
  refine cu_of rfl uk.1.1 (Nat.le_of_ble_eq_true rfl) ?_
  show GU _ _ _ _ _ _ _ _ _ 0 [(0, .ref (B + 0)), (1, .int x1), (2, .int x2)] []
  refine uu_iload_n dX11_bytes_0 rfl (List.mem_of_getElem? (i := 1) rfl) ?_
  refine uu_if_lt (tgt := 16) dX11_bytes_1 (by decide) (fun c1 => ?_) (fun c1 => ?_)
  · replace h := uu_pos c1 h
    refine uu_ldc2 (v := -1) cX11_167 dX11_bytes_16 ?_
    have hr := Option.some.inj h
    subst hr
    exact uu_lret rfl dX11_bytes_19
  · replace h := uu_neg c1 h
    refine uu_iload_n dX11_bytes_4 rfl (List.mem_of_getElem? (i := 1) rfl) ?_
    refine uu_aload_n dX11_bytes_5 rfl (List.mem_of_getElem? (i := 0) rfl) ?_
    refine uu_geti (ci := 11) (N := 17) fX11_150 (by decide) so_0.is (by decide) (by decide) dX11_bytes_6 ?_
    refine uu_icmp_ge (tgt := 16) dX11_bytes_9 (by decide) (fun c2 => ?_) (fun c2 => ?_)
    · replace h := uu_pos c2 h
      refine uu_ldc2 (v := -1) cX11_167 dX11_bytes_16 ?_
      have hr := Option.some.inj h
      subst hr
      exact uu_lret rfl dX11_bytes_19
    · replace h := uu_neg c2 h
      refine uu_iload_n dX11_bytes_12 rfl (List.mem_of_getElem? (i := 2) rfl) ?_
      refine uu_if_ge (tgt := 20) dX11_bytes_13 (by decide) (fun c3 => ?_) (fun c3 => ?_)
      · replace h := uu_pos c3 h
        refine uu_aload_n dX11_bytes_20 rfl (List.mem_of_getElem? (i := 0) rfl) ?_
        refine uu_geta (ci := 11) (N := 17) fX11_33 (by decide) so_0.is (by decide) (c := 5) (by decide) dX11_bytes_21 ?_
        refine uu_iload_n dX11_bytes_24 rfl (List.mem_of_getElem? (i := 1) rfl) ?_
        obtain ⟨j4, e5, h⟩ := uu_ob h
        refine uu_aald (t := 27) rfl (by decide) e5 dX11_bytes_25 ?_
        obtain ⟨g6, h⟩ := uu_grd h
        obtain ⟨j7, e8, h⟩ := uu_ob h
        refine uu_getr (ci := 1) (N := 6) fX11_161 (by decide) g6 (by decide) (by decide) e8 dX11_bytes_26 ?_
        refine uu_astore_n dX11_bytes_29 rfl (by decide) rfl ?_
        refine uu_aload_n dX11_bytes_30 rfl (List.mem_of_getElem? (i := 0) rfl) ?_
        refine uu_iload_n dX11_bytes_31 rfl (List.mem_of_getElem? (i := 3) rfl) ?_
        refine uu_aload_n dX11_bytes_32 rfl (List.mem_of_getElem? (i := 0) rfl) ?_
        obtain ⟨v9, e10, h⟩ := uu_ob h
        refine uu_alen e10 dX11_bytes_33 ?_
        obtain ⟨v11, e12, h⟩ := uu_ob h
        refine uu_cs (d1 := 0) (As := [.ref (B + j7), .int x2, .int v9]) (st := []) (st' := [.long v11]) (xc_X11_eightBytes uk  e12) kX11_eightBytes lX11_169 sX11_eightBytes (by decide) (Nat.le_of_ble_eq_true rfl) dX11_bytes_34 rfl ?_
        have hr := Option.some.inj h
        subst hr
        exact uu_lret rfl dX11_bytes_37
      · replace h := uu_neg c3 h
        refine uu_ldc2 (v := -1) cX11_167 dX11_bytes_16 ?_
        have hr := Option.some.inj h
        subst hr
        exact uu_lret rfl dX11_bytes_19
def fn_X11_name (x1 : Int32) (x2 : Int32) (x3 : Int32) (s : uS) : Option Int64 := if 0 ≤ x3 then (if x1 = 4 then ((fn_X11_numberOf (-1) 0 x2 s).bind fun v20 => if 0 ≤ v20 then ((pgt 27 s 5 v20).bind fun j23 => if uIs s j23 1 then ((s.R j23 0).bind fun j26 => if ¬ j26 = 0 then ((pgt 27 s 5 v20).bind fun j29 => if uIs s j29 1 then ((s.R j29 0).bind fun j32 => if ¬ j32 = 0 then ((ulen s j32).bind fun v35 => (fn_X11_eightBytes j26 x3 v35 s).bind fun v37 => some v37) else none) else none) else none) else none) else (some (-1))) else ((fn_X11_hasBox x1 x2 s).bind fun v3 => if v3 = true then ((pgt 26 s 4 x1).bind fun j6 => if uSo j6 10 then ((iget 20 s (j6 + 3 + 3) x2).bind fun v9 => (iget 20 s (j6 + 3 + 2) x2).bind fun v11 => if x3 < (v9 - v11) then ((iget 20 s (j6 + 3 + 2) x2).bind fun v14 => (iget 20 s (j6 + 3 + 3) x2).bind fun v16 => (fn_X11_eightBytes (j6 + 3 + 1) (v14 + x3) v16 s).bind fun v18 => some v18) else (some 0)) else none) else (some (-1)))) else (some (-1))
set_option maxRecDepth 100000 in
set_option maxHeartbeats 4000000 in
theorem xc_X11_name {l : Launch} {D : va_G} {A : Nat → ClassId} {B : Nat} {Z : State → Heap → Prop} {vF : Value} (uk : uK B Z vF) {x1 : Int32} {x2 : Int32} {x3 : Int32} {s : uS} {r : Int64}  (h : fn_X11_name x1 x2 x3 s = some r) : CU l D A B Z 2 mX11_name s [.ref (B + 0), .int x1, .int x2, .int x3] (s, some (.long r)) := by
  unfold fn_X11_name at h
  refine cu_of rfl uk.1.1 (Nat.le_of_ble_eq_true rfl) ?_
  show GU _ _ _ _ _ _ _ _ _ 0 [(0, .ref (B + 0)), (1, .int x1), (2, .int x2), (3, .int x3)] []
  refine uu_iload_n dX11_name_0 rfl (List.mem_of_getElem? (i := 3) rfl) ?_
  refine uu_if_ge (tgt := 8) dX11_name_1 (by decide) (fun c1 => ?_) (fun c1 => ?_)
  · replace h := uu_pos c1 h
    refine uu_iload_n dX11_name_8 rfl (List.mem_of_getElem? (i := 1) rfl) ?_
    refine uu_iconst (v := 4) dX11_name_9 (by decide) ?_
    refine uu_icmp_ne (tgt := 59) dX11_name_10 (by decide) (fun c2 => ?_) (fun c2 => ?_)
    · replace h := uu_neg c2 h
      refine uu_aload_n dX11_name_59 rfl (List.mem_of_getElem? (i := 0) rfl) ?_
      refine uu_iload_n dX11_name_60 rfl (List.mem_of_getElem? (i := 1) rfl) ?_
      refine uu_iload_n dX11_name_61 rfl (List.mem_of_getElem? (i := 2) rfl) ?_
      obtain ⟨v3, e4, h⟩ := uu_ob h
      refine uu_cv (d1 := 0) (k := 0) (ci := 11) (T := TX11) (N := 17) (As := [.int x1, .int x2]) (st := []) (st' := [.int (bI v3)]) (xc_X11_hasBox uk  e4) so_0.is (by decide) rfl kX11_hasBox lX11_146 sX11_hasBox (by decide) (Nat.le_of_ble_eq_true rfl) dX11_name_62 rfl ?_
      refine uu_ifb_ne (tgt := 72) dX11_name_65 (by decide) (fun c5 => ?_) (fun c5 => ?_)
      · replace h := uu_pos c5 h
        refine uu_aload_n dX11_name_72 rfl (List.mem_of_getElem? (i := 0) rfl) ?_
        refine uu_geta (ci := 11) (N := 17) fX11_27 (by decide) so_0.is (by decide) (c := 4) (by decide) dX11_name_73 ?_
        refine uu_iload_n dX11_name_76 rfl (List.mem_of_getElem? (i := 1) rfl) ?_
        obtain ⟨j6, e7, h⟩ := uu_ob h
        refine uu_aald (t := 26) rfl (by decide) e7 dX11_name_77 ?_
        obtain ⟨g8, h⟩ := uu_grd h
        refine uu_getc (ci := 10) (N := 6) fX11_176 (by decide) g8.is (by decide) (c := 3) (by decide) (k2 := j6 + 3) rfl dX11_name_78 ?_
        refine uu_astore dX11_name_81 (by decide) rfl ?_
        refine uu_aload dX11_name_83 (List.mem_of_getElem? (i := 0) rfl) ?_
        refine uu_getc (ci := 9) (N := 6) fX11_179 (by decide) (so_boxes g8).is (by decide) (c := 3) (by decide) (k2 := j6 + 3 + 3) rfl dX11_name_85 ?_
        refine uu_iload_n dX11_name_88 rfl (List.mem_of_getElem? (i := 3) rfl) ?_
        obtain ⟨v9, e10, h⟩ := uu_ob h
        refine uu_iald e10 dX11_name_89 ?_
        refine uu_aload dX11_name_90 (List.mem_of_getElem? (i := 0) rfl) ?_
        refine uu_getc (ci := 9) (N := 6) fX11_185 (by decide) (so_boxes g8).is (by decide) (c := 2) (by decide) (k2 := j6 + 3 + 2) rfl dX11_name_92 ?_
        refine uu_iload_n dX11_name_95 rfl (List.mem_of_getElem? (i := 3) rfl) ?_
        obtain ⟨v11, e12, h⟩ := uu_ob h
        refine uu_iald e12 dX11_name_96 ?_
        refine uu_isub dX11_name_97 ?_
        refine uu_istore dX11_name_98 (by decide) rfl ?_
        refine uu_iload_n dX11_name_100 rfl (List.mem_of_getElem? (i := 5) rfl) ?_
        refine uu_iload dX11_name_101 (List.mem_of_getElem? (i := 0) rfl) ?_
        refine uu_icmp_lt (tgt := 110) dX11_name_103 (by decide) (fun c13 => ?_) (fun c13 => ?_)
        · replace h := uu_pos c13 h
          refine uu_aload dX11_name_110 (List.mem_of_getElem? (i := 1) rfl) ?_
          refine uu_getc (ci := 9) (N := 6) fX11_188 (by decide) (so_boxes g8).is (by decide) (c := 1) (by decide) (k2 := j6 + 3 + 1) rfl dX11_name_112 ?_
          refine uu_aload dX11_name_115 (List.mem_of_getElem? (i := 1) rfl) ?_
          refine uu_getc (ci := 9) (N := 6) fX11_185 (by decide) (so_boxes g8).is (by decide) (c := 2) (by decide) (k2 := j6 + 3 + 2) rfl dX11_name_117 ?_
          refine uu_iload_n dX11_name_120 rfl (List.mem_of_getElem? (i := 4) rfl) ?_
          obtain ⟨v14, e15, h⟩ := uu_ob h
          refine uu_iald e15 dX11_name_121 ?_
          refine uu_iload_n dX11_name_122 rfl (List.mem_of_getElem? (i := 5) rfl) ?_
          refine uu_iadd dX11_name_123 ?_
          refine uu_aload dX11_name_124 (List.mem_of_getElem? (i := 1) rfl) ?_
          refine uu_getc (ci := 9) (N := 6) fX11_179 (by decide) (so_boxes g8).is (by decide) (c := 3) (by decide) (k2 := j6 + 3 + 3) rfl dX11_name_126 ?_
          refine uu_iload_n dX11_name_129 rfl (List.mem_of_getElem? (i := 4) rfl) ?_
          obtain ⟨v16, e17, h⟩ := uu_ob h
          refine uu_iald e17 dX11_name_130 ?_
          obtain ⟨v18, e19, h⟩ := uu_ob h
          refine uu_cs (d1 := 0) (As := [.ref (B + (j6 + 3 + 1)), .int (v14 + x3), .int v16]) (st := []) (st' := [.long v18]) (xc_X11_eightBytes uk  e19) kX11_eightBytes lX11_169 sX11_eightBytes (by decide) (Nat.le_of_ble_eq_true rfl) dX11_name_131 rfl ?_
          have hr := Option.some.inj h
          subst hr
          exact uu_lret rfl dX11_name_134
        · replace h := uu_neg c13 h
          refine uu_lconst (v := 0) dX11_name_106 (by decide) ?_
          refine uu_goto (tgt := 134) dX11_name_107 (by decide) ?_
          have hr := Option.some.inj h
          subst hr
          exact uu_lret rfl dX11_name_134
      · replace h := uu_neg c5 h
        refine uu_ldc2 (v := -1) cX11_167 dX11_name_68 ?_
        have hr := Option.some.inj h
        subst hr
        exact uu_lret rfl dX11_name_71
    · replace h := uu_pos c2 h
      refine uu_aload_n dX11_name_13 rfl (List.mem_of_getElem? (i := 0) rfl) ?_
      refine uu_iconst (v := -1) dX11_name_14 (by decide) ?_
      refine uu_iconst (v := 0) dX11_name_15 (by decide) ?_
      refine uu_iload_n dX11_name_16 rfl (List.mem_of_getElem? (i := 2) rfl) ?_
      obtain ⟨v20, e21, h⟩ := uu_ob h
      refine uu_cv (d1 := 1) (k := 0) (ci := 11) (T := TX11) (N := 17) (As := [.int (-1), .int 0, .int x2]) (st := []) (st' := [.int v20]) (xc_X11_numberOf uk  e21) so_0.is (by decide) rfl kX11_numberOf lX11_157 sX11_numberOf (by decide) (Nat.le_of_ble_eq_true rfl) dX11_name_17 rfl ?_
      refine uu_istore dX11_name_20 (by decide) rfl ?_
      refine uu_iload dX11_name_22 (List.mem_of_getElem? (i := 0) rfl) ?_
      refine uu_if_ge (tgt := 33) dX11_name_24 (by decide) (fun c22 => ?_) (fun c22 => ?_)
      · replace h := uu_pos c22 h
        refine uu_aload_n dX11_name_33 rfl (List.mem_of_getElem? (i := 1) rfl) ?_
        refine uu_geta (ci := 11) (N := 17) fX11_33 (by decide) so_0.is (by decide) (c := 5) (by decide) dX11_name_34 ?_
        refine uu_iload dX11_name_37 (List.mem_of_getElem? (i := 0) rfl) ?_
        obtain ⟨j23, e24, h⟩ := uu_ob h
        refine uu_aald (t := 27) rfl (by decide) e24 dX11_name_39 ?_
        obtain ⟨g25, h⟩ := uu_grd h
        obtain ⟨j26, e27, h⟩ := uu_ob h
        obtain ⟨g28, h⟩ := uu_grd h
        refine uu_getl (ci := 1) (N := 6) fX11_173 (by decide) g25 (by decide) (by decide) e27 g28 dX11_name_40 ?_
        refine uu_iload_n dX11_name_43 rfl (List.mem_of_getElem? (i := 4) rfl) ?_
        refine uu_aload_n dX11_name_44 rfl (List.mem_of_getElem? (i := 1) rfl) ?_
        refine uu_geta (ci := 11) (N := 17) fX11_33 (by decide) so_0.is (by decide) (c := 5) (by decide) dX11_name_45 ?_
        refine uu_iload dX11_name_48 (List.mem_of_getElem? (i := 0) rfl) ?_
        obtain ⟨j29, e30, h⟩ := uu_ob h
        refine uu_aald (t := 27) rfl (by decide) e30 dX11_name_50 ?_
        obtain ⟨g31, h⟩ := uu_grd h
        obtain ⟨j32, e33, h⟩ := uu_ob h
        obtain ⟨g34, h⟩ := uu_grd h
        refine uu_getl (ci := 1) (N := 6) fX11_173 (by decide) g31 (by decide) (by decide) e33 g34 dX11_name_51 ?_
        obtain ⟨v35, e36, h⟩ := uu_ob h
        refine uu_alen e36 dX11_name_54 ?_
        obtain ⟨v37, e38, h⟩ := uu_ob h
        refine uu_cs (d1 := 0) (As := [.ref (B + j26), .int x3, .int v35]) (st := []) (st' := [.long v37]) (xc_X11_eightBytes uk  e38) kX11_eightBytes lX11_169 sX11_eightBytes (by decide) (Nat.le_of_ble_eq_true rfl) dX11_name_55 rfl ?_
        have hr := Option.some.inj h
        subst hr
        exact uu_lret rfl dX11_name_58
      · replace h := uu_neg c22 h
        refine uu_ldc2 (v := -1) cX11_167 dX11_name_27 ?_
        refine uu_goto (tgt := 58) dX11_name_30 (by decide) ?_
        have hr := Option.some.inj h
        subst hr
        exact uu_lret rfl dX11_name_58
  · replace h := uu_neg c1 h
    refine uu_ldc2 (v := -1) cX11_167 dX11_name_4 ?_
    have hr := Option.some.inj h
    subst hr
    exact uu_lret rfl dX11_name_7
def fn_X11_countOfUser (x1 : Int32) (x2 : Int32) (s : uS) : Option Int32 := if x2 < 0 then (some (-1 : Int32)) else (if x2 < 4 then (if x1 = 1 then ((pgt 26 s 4 x2).bind fun j3 => if uSo j3 10 then (some (s.I j3 3)) else none) else (if x1 = 2 then ((pgt 26 s 4 x2).bind fun j6 => if uSo j6 10 then (some (s.I j6 4)) else none) else (if x1 = 3 then ((pgt 26 s 4 x2).bind fun j9 => if uSo j9 10 then (some (s.I (j9 + 3) 3)) else none) else (some (-1 : Int32))))) else (some (-1 : Int32)))
set_option maxRecDepth 100000 in
set_option maxHeartbeats 4000000 in
theorem xc_X11_countOfUser {l : Launch} {D : va_G} {A : Nat → ClassId} {B : Nat} {Z : State → Heap → Prop} {vF : Value} (uk : uK B Z vF) {x1 : Int32} {x2 : Int32} {s : uS} {r : Int32}  (h : fn_X11_countOfUser x1 x2 s = some r) : CU l D A B Z 0 mX11_countOfUser s [.ref (B + 0), .int x1, .int x2] (s, some (.int r)) := by
  unfold fn_X11_countOfUser at h
  refine cu_of rfl uk.1.1 (Nat.le_of_ble_eq_true rfl) ?_
  show GU _ _ _ _ _ _ _ _ _ 0 [(0, .ref (B + 0)), (1, .int x1), (2, .int x2)] []
  refine uu_iload_n dX11_countOfUser_0 rfl (List.mem_of_getElem? (i := 2) rfl) ?_
  refine uu_if_lt (tgt := 9) dX11_countOfUser_1 (by decide) (fun c1 => ?_) (fun c1 => ?_)
  · replace h := uu_pos c1 h
    refine uu_iconst (v := -1) dX11_countOfUser_9 (by decide) ?_
    have hr := Option.some.inj h
    subst hr
    exact uu_iret rfl dX11_countOfUser_10
  · replace h := uu_neg c1 h
    refine uu_iload_n dX11_countOfUser_4 rfl (List.mem_of_getElem? (i := 2) rfl) ?_
    refine uu_iconst (v := 4) dX11_countOfUser_5 (by decide) ?_
    refine uu_icmp_lt (tgt := 11) dX11_countOfUser_6 (by decide) (fun c2 => ?_) (fun c2 => ?_)
    · replace h := uu_pos c2 h
      refine uu_iload_n dX11_countOfUser_11 rfl (List.mem_of_getElem? (i := 1) rfl) ?_
      by_cases c12_0 : x1 = 1
      · replace h := uu_pos c12_0 h
        refine uu_tabE (tgt := 40) (off := 28) (v := 1) dX11_countOfUser_12 c12_0 (by decide) (by decide) rfl (by decide) ?_
        refine uu_aload_n dX11_countOfUser_40 rfl (List.mem_of_getElem? (i := 0) rfl) ?_
        refine uu_geta (ci := 11) (N := 17) fX11_27 (by decide) so_0.is (by decide) (c := 4) (by decide) dX11_countOfUser_41 ?_
        refine uu_iload_n dX11_countOfUser_44 rfl (List.mem_of_getElem? (i := 2) rfl) ?_
        obtain ⟨j3, e4, h⟩ := uu_ob h
        refine uu_aald (t := 26) rfl (by decide) e4 dX11_countOfUser_45 ?_
        obtain ⟨g5, h⟩ := uu_grd h
        refine uu_geti (ci := 10) (N := 6) fX11_201 (by decide) g5.is (by decide) (by decide) dX11_countOfUser_46 ?_
        have hr := Option.some.inj h
        subst hr
        exact uu_iret rfl dX11_countOfUser_49
      replace h := uu_neg c12_0 h
      by_cases c12_1 : x1 = 2
      · replace h := uu_pos c12_1 h
        refine uu_tabE (tgt := 50) (off := 38) (v := 2) dX11_countOfUser_12 c12_1 (by decide) (by decide) rfl (by decide) ?_
        refine uu_aload_n dX11_countOfUser_50 rfl (List.mem_of_getElem? (i := 0) rfl) ?_
        refine uu_geta (ci := 11) (N := 17) fX11_27 (by decide) so_0.is (by decide) (c := 4) (by decide) dX11_countOfUser_51 ?_
        refine uu_iload_n dX11_countOfUser_54 rfl (List.mem_of_getElem? (i := 2) rfl) ?_
        obtain ⟨j6, e7, h⟩ := uu_ob h
        refine uu_aald (t := 26) rfl (by decide) e7 dX11_countOfUser_55 ?_
        obtain ⟨g8, h⟩ := uu_grd h
        refine uu_geti (ci := 10) (N := 6) fX11_204 (by decide) g8.is (by decide) (by decide) dX11_countOfUser_56 ?_
        have hr := Option.some.inj h
        subst hr
        exact uu_iret rfl dX11_countOfUser_59
      replace h := uu_neg c12_1 h
      by_cases c12_2 : x1 = 3
      · replace h := uu_pos c12_2 h
        refine uu_tabE (tgt := 60) (off := 48) (v := 3) dX11_countOfUser_12 c12_2 (by decide) (by decide) rfl (by decide) ?_
        refine uu_aload_n dX11_countOfUser_60 rfl (List.mem_of_getElem? (i := 0) rfl) ?_
        refine uu_geta (ci := 11) (N := 17) fX11_27 (by decide) so_0.is (by decide) (c := 4) (by decide) dX11_countOfUser_61 ?_
        refine uu_iload_n dX11_countOfUser_64 rfl (List.mem_of_getElem? (i := 2) rfl) ?_
        obtain ⟨j9, e10, h⟩ := uu_ob h
        refine uu_aald (t := 26) rfl (by decide) e10 dX11_countOfUser_65 ?_
        obtain ⟨g11, h⟩ := uu_grd h
        refine uu_getc (ci := 10) (N := 6) fX11_176 (by decide) g11.is (by decide) (c := 3) (by decide) (k2 := j9 + 3) rfl dX11_countOfUser_66 ?_
        refine uu_geti (ci := 9) (N := 6) fX11_207 (by decide) (so_boxes g11).is (by decide) (by decide) dX11_countOfUser_69 ?_
        have hr := Option.some.inj h
        subst hr
        exact uu_iret rfl dX11_countOfUser_72
      replace h := uu_neg c12_2 h
      have cx12 : (x1).toInt < 1 ∨ 3 < (x1).toInt := by
        refine Decidable.byContradiction fun q => ?_
        rcases (show (x1).toInt = 1 ∨ (x1).toInt = 2 ∨ (x1).toInt = 3 by omega) with q | q | q
        · exact c12_0 (sw_eq q (by decide))
        · exact c12_1 (sw_eq q (by decide))
        · exact c12_2 (sw_eq q (by decide))
      refine uu_tableOut (tgt := 73) dX11_countOfUser_12 cx12 (by decide) ?_
      refine uu_iconst (v := -1) dX11_countOfUser_73 (by decide) ?_
      have hr := Option.some.inj h
      subst hr
      exact uu_iret rfl dX11_countOfUser_74
    · replace h := uu_neg c2 h
      refine uu_iconst (v := -1) dX11_countOfUser_9 (by decide) ?_
      have hr := Option.some.inj h
      subst hr
      exact uu_iret rfl dX11_countOfUser_10
def fn_X11_count (x1 : Int32) (s : uS) : Option Int32 := if x1 = 0 then (some (s.I 0 10)) else (if x1 = 1 then (some (s.I 0 11)) else (if x1 = 2 then (some (s.I 0 12)) else (if x1 = 3 then (some (s.I 0 13)) else (if x1 = 4 then (some (s.I 0 14)) else (if x1 = 5 then (some (s.I 0 9)) else (if x1 = 6 then (if (s.I 0 16) = 0 then (some (0 : Int32)) else (some (1 : Int32))) else (if x1 = 7 then (if (s.I 1042 4) = 0 then (some (0 : Int32)) else (some (1 : Int32))) else ((fn_X11_countOfUser (x1 / 10) (x1 - x1 / 10 * 10) s).bind fun v3 => some v3))))))))
set_option maxRecDepth 100000 in
set_option maxHeartbeats 4000000 in
theorem xc_X11_count {l : Launch} {D : va_G} {A : Nat → ClassId} {B : Nat} {Z : State → Heap → Prop} {vF : Value} (uk : uK B Z vF) {x1 : Int32} {s : uS} {r : Int32}  (h : fn_X11_count x1 s = some r) : CU l D A B Z 1 mX11_count s [.ref (B + 0), .int x1] (s, some (.int r)) := by
  unfold fn_X11_count at h
  refine cu_of rfl uk.1.1 (Nat.le_of_ble_eq_true rfl) ?_
  show GU _ _ _ _ _ _ _ _ _ 0 [(0, .ref (B + 0)), (1, .int x1)] []
  refine uu_iload_n dX11_count_0 rfl (List.mem_of_getElem? (i := 1) rfl) ?_
  by_cases c1_0 : x1 = 0
  · replace h := uu_pos c1_0 h
    refine uu_tabE (tgt := 48) (off := 47) (v := 0) dX11_count_1 c1_0 (by decide) (by decide) rfl (by decide) ?_
    refine uu_aload_n dX11_count_48 rfl (List.mem_of_getElem? (i := 0) rfl) ?_
    refine uu_geti (ci := 11) (N := 17) fX11_150 (by decide) so_0.is (by decide) (by decide) dX11_count_49 ?_
    have hr := Option.some.inj h
    subst hr
    exact uu_iret rfl dX11_count_52
  replace h := uu_neg c1_0 h
  by_cases c1_1 : x1 = 1
  · replace h := uu_pos c1_1 h
    refine uu_tabE (tgt := 53) (off := 52) (v := 1) dX11_count_1 c1_1 (by decide) (by decide) rfl (by decide) ?_
    refine uu_aload_n dX11_count_53 rfl (List.mem_of_getElem? (i := 0) rfl) ?_
    refine uu_geti (ci := 11) (N := 17) fX11_191 (by decide) so_0.is (by decide) (by decide) dX11_count_54 ?_
    have hr := Option.some.inj h
    subst hr
    exact uu_iret rfl dX11_count_57
  replace h := uu_neg c1_1 h
  by_cases c1_2 : x1 = 2
  · replace h := uu_pos c1_2 h
    refine uu_tabE (tgt := 58) (off := 57) (v := 2) dX11_count_1 c1_2 (by decide) (by decide) rfl (by decide) ?_
    refine uu_aload_n dX11_count_58 rfl (List.mem_of_getElem? (i := 0) rfl) ?_
    refine uu_geti (ci := 11) (N := 17) fX11_194 (by decide) so_0.is (by decide) (by decide) dX11_count_59 ?_
    have hr := Option.some.inj h
    subst hr
    exact uu_iret rfl dX11_count_62
  replace h := uu_neg c1_2 h
  by_cases c1_3 : x1 = 3
  · replace h := uu_pos c1_3 h
    refine uu_tabE (tgt := 63) (off := 62) (v := 3) dX11_count_1 c1_3 (by decide) (by decide) rfl (by decide) ?_
    refine uu_aload_n dX11_count_63 rfl (List.mem_of_getElem? (i := 0) rfl) ?_
    refine uu_geti (ci := 11) (N := 17) fX11_137 (by decide) so_0.is (by decide) (by decide) dX11_count_64 ?_
    have hr := Option.some.inj h
    subst hr
    exact uu_iret rfl dX11_count_67
  replace h := uu_neg c1_3 h
  by_cases c1_4 : x1 = 4
  · replace h := uu_pos c1_4 h
    refine uu_tabE (tgt := 68) (off := 67) (v := 4) dX11_count_1 c1_4 (by decide) (by decide) rfl (by decide) ?_
    refine uu_aload_n dX11_count_68 rfl (List.mem_of_getElem? (i := 0) rfl) ?_
    refine uu_geti (ci := 11) (N := 17) fX11_143 (by decide) so_0.is (by decide) (by decide) dX11_count_69 ?_
    have hr := Option.some.inj h
    subst hr
    exact uu_iret rfl dX11_count_72
  replace h := uu_neg c1_4 h
  by_cases c1_5 : x1 = 5
  · replace h := uu_pos c1_5 h
    refine uu_tabE (tgt := 73) (off := 72) (v := 5) dX11_count_1 c1_5 (by decide) (by decide) rfl (by decide) ?_
    refine uu_aload_n dX11_count_73 rfl (List.mem_of_getElem? (i := 0) rfl) ?_
    refine uu_geti (ci := 11) (N := 17) fX11_88 (by decide) so_0.is (by decide) (by decide) dX11_count_74 ?_
    have hr := Option.some.inj h
    subst hr
    exact uu_iret rfl dX11_count_77
  replace h := uu_neg c1_5 h
  by_cases c1_6 : x1 = 6
  · replace h := uu_pos c1_6 h
    refine uu_tabE (tgt := 78) (off := 77) (v := 6) dX11_count_1 c1_6 (by decide) (by decide) rfl (by decide) ?_
    refine uu_aload_n dX11_count_78 rfl (List.mem_of_getElem? (i := 0) rfl) ?_
    refine uu_geti (ci := 11) (N := 17) fX11_44 (by decide) so_0.is (by decide) (by decide) dX11_count_79 ?_
    refine uu_if_eq (tgt := 89) dX11_count_82 (by decide) (fun c1 => ?_) (fun c1 => ?_)
    · replace h := uu_pos c1 h
      refine uu_iconst (v := 0) dX11_count_89 (by decide) ?_
      have hr := Option.some.inj h
      subst hr
      exact uu_iret rfl dX11_count_90
    · replace h := uu_neg c1 h
      refine uu_iconst (v := 1) dX11_count_85 (by decide) ?_
      refine uu_goto (tgt := 90) dX11_count_86 (by decide) ?_
      have hr := Option.some.inj h
      subst hr
      exact uu_iret rfl dX11_count_90
  replace h := uu_neg c1_6 h
  by_cases c1_7 : x1 = 7
  · replace h := uu_pos c1_7 h
    refine uu_tabE (tgt := 91) (off := 90) (v := 7) dX11_count_1 c1_7 (by decide) (by decide) rfl (by decide) ?_
    refine uu_aload_n dX11_count_91 rfl (List.mem_of_getElem? (i := 0) rfl) ?_
    refine uu_geta (ci := 11) (N := 17) fX11_56 (by decide) so_0.is (by decide) (c := 1042) (by decide) dX11_count_92 ?_
    refine uu_geti (ci := 0) (N := 12) fX11_99 (by decide) so_1042.is (by decide) (by decide) dX11_count_95 ?_
    refine uu_if_eq (tgt := 105) dX11_count_98 (by decide) (fun c2 => ?_) (fun c2 => ?_)
    · replace h := uu_pos c2 h
      refine uu_iconst (v := 0) dX11_count_105 (by decide) ?_
      have hr := Option.some.inj h
      subst hr
      exact uu_iret rfl dX11_count_106
    · replace h := uu_neg c2 h
      refine uu_iconst (v := 1) dX11_count_101 (by decide) ?_
      refine uu_goto (tgt := 106) dX11_count_102 (by decide) ?_
      have hr := Option.some.inj h
      subst hr
      exact uu_iret rfl dX11_count_106
  replace h := uu_neg c1_7 h
  have cx1 : (x1).toInt < 0 ∨ 7 < (x1).toInt := by
    refine Decidable.byContradiction fun q => ?_
    rcases (show (x1).toInt = 0 ∨ (x1).toInt = 1 ∨ (x1).toInt = 2 ∨ (x1).toInt = 3 ∨ (x1).toInt = 4 ∨ (x1).toInt = 5 ∨ (x1).toInt = 6 ∨ (x1).toInt = 7 by omega) with q | q | q | q | q | q | q | q
    · exact c1_0 (sw_eq q (by decide))
    · exact c1_1 (sw_eq q (by decide))
    · exact c1_2 (sw_eq q (by decide))
    · exact c1_3 (sw_eq q (by decide))
    · exact c1_4 (sw_eq q (by decide))
    · exact c1_5 (sw_eq q (by decide))
    · exact c1_6 (sw_eq q (by decide))
    · exact c1_7 (sw_eq q (by decide))
  refine uu_tableOut (tgt := 107) dX11_count_1 cx1 (by decide) ?_
  refine uu_aload_n dX11_count_107 rfl (List.mem_of_getElem? (i := 0) rfl) ?_
  refine uu_iload_n dX11_count_108 rfl (List.mem_of_getElem? (i := 1) rfl) ?_
  refine uu_bipush (v := 10) dX11_count_109 (by decide) ?_
  refine uu_idiv dX11_count_111 (by decide) ?_
  refine uu_iload_n dX11_count_112 rfl (List.mem_of_getElem? (i := 1) rfl) ?_
  refine uu_bipush (v := 10) dX11_count_113 (by decide) ?_
  refine uu_irem dX11_count_115 (by decide) ?_
  obtain ⟨v3, e4, h⟩ := uu_ob h
  refine uu_cv (d1 := 0) (k := 0) (ci := 11) (T := TX11) (N := 17) (As := [.int (x1 / 10), .int (x1 - x1 / 10 * 10)]) (st := []) (st' := [.int v3]) (xc_X11_countOfUser uk  e4) so_0.is (by decide) rfl kX11_countOfUser lX11_197 sX11_countOfUser (by decide) (Nat.le_of_ble_eq_true rfl) dX11_count_116 rfl ?_
  have hr := Option.some.inj h
  subst hr
  exact uu_iret rfl dX11_count_119
abbrev mX11_fits : hM := (yX11_fits, cX11_fits, 5, (some (.boolean)))
theorem dX11_fits_91 : decode cX11_fits 91 = .ok (.iadd, 1) := by decide +kernel
theorem dX11_fits_92 : decode cX11_fits 92 = .ok (.istore 4, 2) := by decide +kernel
theorem dX11_fits_94 : decode cX11_fits 94 = .ok (.iload_n 1, 1) := by decide +kernel
theorem dX11_fits_95 : decode cX11_fits 95 = .ok (.sipush 300, 3) := by decide +kernel
theorem dX11_fits_98 : decode cX11_fits 98 = .ok (.if_icmp .gt 31, 3) := by decide +kernel
theorem dX11_fits_129 : decode cX11_fits 129 = .ok (.iconst 0, 1) := by decide +kernel
theorem dX11_fits_130 : decode cX11_fits 130 = .ok (.ireturn, 1) := by decide +kernel
theorem dX11_fits_101 : decode cX11_fits 101 = .ok (.aload_n 0, 1) := by decide +kernel
theorem dX11_fits_102 : decode cX11_fits 102 = .ok (.getfield 191, 3) := by decide +kernel
theorem dX11_fits_105 : decode cX11_fits 105 = .ok (.iload_n 2, 1) := by decide +kernel
theorem dX11_fits_106 : decode cX11_fits 106 = .ok (.iadd, 1) := by decide +kernel
theorem dX11_fits_107 : decode cX11_fits 107 = .ok (.bipush 100, 2) := by decide +kernel
theorem dX11_fits_109 : decode cX11_fits 109 = .ok (.if_icmp .gt 20, 3) := by decide +kernel
theorem dX11_fits_112 : decode cX11_fits 112 = .ok (.aload_n 0, 1) := by decide +kernel
theorem dX11_fits_113 : decode cX11_fits 113 = .ok (.getfield 194, 3) := by decide +kernel
theorem dX11_fits_116 : decode cX11_fits 116 = .ok (.iload 4, 2) := by decide +kernel
theorem dX11_fits_118 : decode cX11_fits 118 = .ok (.iadd, 1) := by decide +kernel
theorem cX11_294 : Cond.constant RX11 294 (150000) ∈ lw_g := h_t6 113 rfl rfl
theorem dX11_fits_119 : decode cX11_fits 119 = .ok (.ldc_w 294, 3) := by decide +kernel
theorem dX11_fits_122 : decode cX11_fits 122 = .ok (.if_icmp .gt 7, 3) := by decide +kernel
theorem dX11_fits_125 : decode cX11_fits 125 = .ok (.iconst 1, 1) := by decide +kernel
theorem dX11_fits_126 : decode cX11_fits 126 = .ok (.goto 4, 3) := by decide +kernel
theorem dX11_fits_40 : decode cX11_fits 40 = .ok (.iadd, 1) := by decide +kernel
theorem dX11_fits_41 : decode cX11_fits 41 = .ok (.istore_n 2, 1) := by decide +kernel
theorem dX11_fits_42 : decode cX11_fits 42 = .ok (.aload_n 0, 1) := by decide +kernel
theorem dX11_fits_43 : decode cX11_fits 43 = .ok (.getfield 84, 3) := by decide +kernel
theorem fX11_276 : h_fl RX11 276 7 5 RX7 TX7 20 := ⟨rfl, by decide, inX7, h_t3 19 rfl rfl⟩
theorem dX11_fits_46 : decode cX11_fits 46 = .ok (.getfield 276, 3) := by decide +kernel
theorem dX11_fits_49 : decode cX11_fits 49 = .ok (.aload_n 0, 1) := by decide +kernel
theorem dX11_fits_50 : decode cX11_fits 50 = .ok (.getfield 84, 3) := by decide +kernel
theorem fX11_279 : h_fl RX11 279 7 7 RX7 TX7 20 := ⟨rfl, by decide, inX7, h_t3 23 rfl rfl⟩
theorem dX11_fits_53 : decode cX11_fits 53 = .ok (.getfield 279, 3) := by decide +kernel
theorem dX11_fits_56 : decode cX11_fits 56 = .ok (.iadd, 1) := by decide +kernel
theorem dX11_fits_57 : decode cX11_fits 57 = .ok (.istore_n 3, 1) := by decide +kernel
theorem dX11_fits_58 : decode cX11_fits 58 = .ok (.iload_n 3, 1) := by decide +kernel
theorem dX11_fits_59 : decode cX11_fits 59 = .ok (.aload_n 0, 1) := by decide +kernel
theorem dX11_fits_60 : decode cX11_fits 60 = .ok (.getfield 56, 3) := by decide +kernel
theorem fX11_285 : h_fl RX11 285 0 3 RX0 TX0 12 := ⟨rfl, by decide, inX0, h_t2 176 rfl rfl⟩
theorem dX11_fits_63 : decode cX11_fits 63 = .ok (.getfield 285, 3) := by decide +kernel
theorem dX11_fits_66 : decode cX11_fits 66 = .ok (.imul, 1) := by decide +kernel
theorem dX11_fits_67 : decode cX11_fits 67 = .ok (.aload_n 0, 1) := by decide +kernel
theorem dX11_fits_68 : decode cX11_fits 68 = .ok (.getfield 84, 3) := by decide +kernel
theorem fX11_282 : h_fl RX11 282 7 8 RX7 TX7 20 := ⟨rfl, by decide, inX7, h_t3 25 rfl rfl⟩
theorem dX11_fits_71 : decode cX11_fits 71 = .ok (.getfield 282, 3) := by decide +kernel
theorem dX11_fits_74 : decode cX11_fits 74 = .ok (.ifCond .eq 16, 3) := by decide +kernel
theorem dX11_fits_90 : decode cX11_fits 90 = .ok (.iconst 0, 1) := by decide +kernel
theorem dX11_fits_77 : decode cX11_fits 77 = .ok (.aload_n 0, 1) := by decide +kernel
theorem dX11_fits_78 : decode cX11_fits 78 = .ok (.getfield 84, 3) := by decide +kernel
theorem fX11_288 : h_fl RX11 288 7 4 RX7 TX7 20 := ⟨rfl, by decide, inX7, h_t3 17 rfl rfl⟩
theorem dX11_fits_81 : decode cX11_fits 81 = .ok (.getfield 288, 3) := by decide +kernel
theorem fX11_291 : h_fl RX11 291 9 5 RX9 TX9 6 := ⟨rfl, by decide, inX9, h_t1 95 rfl rfl⟩
theorem dX11_fits_84 : decode cX11_fits 84 = .ok (.getfield 291, 3) := by decide +kernel
theorem dX11_fits_87 : decode cX11_fits 87 = .ok (.goto 4, 3) := by decide +kernel
theorem dX11_fits_0 : decode cX11_fits 0 = .ok (.aload_n 0, 1) := by decide +kernel
theorem dX11_fits_1 : decode cX11_fits 1 = .ok (.getfield 150, 3) := by decide +kernel
theorem dX11_fits_4 : decode cX11_fits 4 = .ok (.aload_n 0, 1) := by decide +kernel
theorem dX11_fits_5 : decode cX11_fits 5 = .ok (.getfield 191, 3) := by decide +kernel
theorem dX11_fits_8 : decode cX11_fits 8 = .ok (.isub, 1) := by decide +kernel
theorem dX11_fits_9 : decode cX11_fits 9 = .ok (.aload_n 0, 1) := by decide +kernel
theorem dX11_fits_10 : decode cX11_fits 10 = .ok (.getfield 84, 3) := by decide +kernel
theorem dX11_fits_13 : decode cX11_fits 13 = .ok (.getfield 276, 3) := by decide +kernel
theorem dX11_fits_16 : decode cX11_fits 16 = .ok (.iadd, 1) := by decide +kernel
theorem dX11_fits_17 : decode cX11_fits 17 = .ok (.istore_n 1, 1) := by decide +kernel
theorem dX11_fits_18 : decode cX11_fits 18 = .ok (.aload_n 0, 1) := by decide +kernel
theorem dX11_fits_19 : decode cX11_fits 19 = .ok (.getfield 84, 3) := by decide +kernel
theorem dX11_fits_22 : decode cX11_fits 22 = .ok (.getfield 279, 3) := by decide +kernel
theorem dX11_fits_25 : decode cX11_fits 25 = .ok (.aload_n 0, 1) := by decide +kernel
theorem dX11_fits_26 : decode cX11_fits 26 = .ok (.getfield 84, 3) := by decide +kernel
theorem dX11_fits_29 : decode cX11_fits 29 = .ok (.getfield 282, 3) := by decide +kernel
theorem dX11_fits_32 : decode cX11_fits 32 = .ok (.ifCond .eq 7, 3) := by decide +kernel
theorem dX11_fits_39 : decode cX11_fits 39 = .ok (.iconst 0, 1) := by decide +kernel
theorem dX11_fits_35 : decode cX11_fits 35 = .ok (.iconst 1, 1) := by decide +kernel
theorem dX11_fits_36 : decode cX11_fits 36 = .ok (.goto 4, 3) := by decide +kernel
def fb_X11_fits_91  (x1 : Int32) (x2 : Int32) (xs0 : Int32) (xs1 : Int32) (s : uS) : Option Bool := if (300 : Int32) < x1 then (some false) else (if (100 : Int32) < ((s.I 0 11) + x2) then (some false) else (if (150000 : Int32) < ((s.I 0 12) + (xs1 + xs0)) then (some false) else (some true)))
set_option maxRecDepth 100000 in
set_option maxHeartbeats 4000000 in
theorem xb_X11_fits_91 {l : Launch} {D : va_G} {A : Nat → ClassId} {B : Nat} {Z : State → Heap → Prop} {vF : Value} (uk : uK B Z vF)   {x1 : Int32} {x2 : Int32} {xs0 : Int32} {xs1 : Int32} {s : uS} {r : Bool}  (h : fb_X11_fits_91  x1 x2 xs0 xs1 s = some r) : GU l D A B Z mX11_fits 0 (s, some (.int (bI r))) s 91 [(0, .ref (B + 0)), (1, .int x1), (2, .int x2)] [.int xs0, .int xs1] := by
  unfold fb_X11_fits_91 at h
  refine uu_iadd dX11_fits_91 ?_
  refine uu_istore dX11_fits_92 (by decide) rfl ?_
  refine uu_iload_n dX11_fits_94 rfl (List.mem_of_getElem? (i := 2) rfl) ?_
  refine uu_sipush (v := 300) dX11_fits_95 (by decide) ?_
  refine uu_icmp_gt (tgt := 129) dX11_fits_98 (by decide) (fun c1 => ?_) (fun c1 => ?_)
  · replace h := uu_pos c1 h
    refine uu_iconst (v := 0) dX11_fits_129 (by decide) ?_
    have hr := Option.some.inj h
    subst hr
    exact uu_zret (x := bI false) rfl (bI_z _) dX11_fits_130
  · replace h := uu_neg c1 h
    refine uu_aload_n dX11_fits_101 rfl (List.mem_of_getElem? (i := 1) rfl) ?_
    refine uu_geti (ci := 11) (N := 17) fX11_191 (by decide) so_0.is (by decide) (by decide) dX11_fits_102 ?_
    refine uu_iload_n dX11_fits_105 rfl (List.mem_of_getElem? (i := 3) rfl) ?_
    refine uu_iadd dX11_fits_106 ?_
    refine uu_bipush (v := 100) dX11_fits_107 (by decide) ?_
    refine uu_icmp_gt (tgt := 129) dX11_fits_109 (by decide) (fun c2 => ?_) (fun c2 => ?_)
    · replace h := uu_pos c2 h
      refine uu_iconst (v := 0) dX11_fits_129 (by decide) ?_
      have hr := Option.some.inj h
      subst hr
      exact uu_zret (x := bI false) rfl (bI_z _) dX11_fits_130
    · replace h := uu_neg c2 h
      refine uu_aload_n dX11_fits_112 rfl (List.mem_of_getElem? (i := 1) rfl) ?_
      refine uu_geti (ci := 11) (N := 17) fX11_194 (by decide) so_0.is (by decide) (by decide) dX11_fits_113 ?_
      refine uu_iload dX11_fits_116 (List.mem_of_getElem? (i := 0) rfl) ?_
      refine uu_iadd dX11_fits_118 ?_
      refine uu_ldcwI (v := 150000) cX11_294 dX11_fits_119 ?_
      refine uu_icmp_gt (tgt := 129) dX11_fits_122 (by decide) (fun c3 => ?_) (fun c3 => ?_)
      · replace h := uu_pos c3 h
        refine uu_iconst (v := 0) dX11_fits_129 (by decide) ?_
        have hr := Option.some.inj h
        subst hr
        exact uu_zret (x := bI false) rfl (bI_z _) dX11_fits_130
      · replace h := uu_neg c3 h
        refine uu_iconst (v := 1) dX11_fits_125 (by decide) ?_
        refine uu_goto (tgt := 130) dX11_fits_126 (by decide) ?_
        have hr := Option.some.inj h
        subst hr
        exact uu_zret (x := bI true) rfl (bI_z _) dX11_fits_130
def fb_X11_fits_40  (x1 : Int32) (bs0 : Bool) (xs1 : Int32) (s : uS) : Option Bool := if (s.I 1070 8) = 0 then (fb_X11_fits_91 x1 (xs1 + (bI bs0)) 0 (((s.I 1070 5) + (s.I 1070 7)) * (s.I 1042 3)) s) else (fb_X11_fits_91 x1 (xs1 + (bI bs0)) (s.I 1075 5) (((s.I 1070 5) + (s.I 1070 7)) * (s.I 1042 3)) s)
set_option maxRecDepth 100000 in
set_option maxHeartbeats 4000000 in
theorem xb_X11_fits_40 {l : Launch} {D : va_G} {A : Nat → ClassId} {B : Nat} {Z : State → Heap → Prop} {vF : Value} (uk : uK B Z vF)   {x1 : Int32} {bs0 : Bool} {xs1 : Int32} {s : uS} {r : Bool}  (h : fb_X11_fits_40  x1 bs0 xs1 s = some r) : GU l D A B Z mX11_fits 0 (s, some (.int (bI r))) s 40 [(0, .ref (B + 0)), (1, .int x1)] [.int (bI bs0), .int xs1] := by
  unfold fb_X11_fits_40 at h
  refine uu_iadd dX11_fits_40 ?_
  refine uu_istore_n dX11_fits_41 rfl (by decide) rfl ?_
  refine uu_aload_n dX11_fits_42 rfl (List.mem_of_getElem? (i := 1) rfl) ?_
  refine uu_geta (ci := 11) (N := 17) fX11_84 (by decide) so_0.is (by decide) (c := 1070) (by decide) dX11_fits_43 ?_
  refine uu_geti (ci := 7) (N := 20) fX11_276 (by decide) so_1070.is (by decide) (by decide) dX11_fits_46 ?_
  refine uu_aload_n dX11_fits_49 rfl (List.mem_of_getElem? (i := 1) rfl) ?_
  refine uu_geta (ci := 11) (N := 17) fX11_84 (by decide) so_0.is (by decide) (c := 1070) (by decide) dX11_fits_50 ?_
  refine uu_geti (ci := 7) (N := 20) fX11_279 (by decide) so_1070.is (by decide) (by decide) dX11_fits_53 ?_
  refine uu_iadd dX11_fits_56 ?_
  refine uu_istore_n dX11_fits_57 rfl (by decide) rfl ?_
  refine uu_iload_n dX11_fits_58 rfl (List.mem_of_getElem? (i := 0) rfl) ?_
  refine uu_aload_n dX11_fits_59 rfl (List.mem_of_getElem? (i := 2) rfl) ?_
  refine uu_geta (ci := 11) (N := 17) fX11_56 (by decide) so_0.is (by decide) (c := 1042) (by decide) dX11_fits_60 ?_
  refine uu_geti (ci := 0) (N := 12) fX11_285 (by decide) so_1042.is (by decide) (by decide) dX11_fits_63 ?_
  refine uu_imul dX11_fits_66 ?_
  refine uu_aload_n dX11_fits_67 rfl (List.mem_of_getElem? (i := 2) rfl) ?_
  refine uu_geta (ci := 11) (N := 17) fX11_84 (by decide) so_0.is (by decide) (c := 1070) (by decide) dX11_fits_68 ?_
  refine uu_geti (ci := 7) (N := 20) fX11_282 (by decide) so_1070.is (by decide) (by decide) dX11_fits_71 ?_
  refine uu_if_eq (tgt := 90) dX11_fits_74 (by decide) (fun c1 => ?_) (fun c1 => ?_)
  · replace h := uu_pos c1 h
    refine uu_iconst (v := 0) dX11_fits_90 (by decide) ?_
    refine uu_lv [2, 3, 1] (lv' := [(0, .ref (B + 0)), (1, .int x1), (2, .int (xs1 + (bI bs0)))]) rfl ?_
    exact xb_X11_fits_91 uk  h
  · replace h := uu_neg c1 h
    refine uu_aload_n dX11_fits_77 rfl (List.mem_of_getElem? (i := 2) rfl) ?_
    refine uu_geta (ci := 11) (N := 17) fX11_84 (by decide) so_0.is (by decide) (c := 1070) (by decide) dX11_fits_78 ?_
    refine uu_geta (ci := 7) (N := 20) fX11_288 (by decide) so_1070.is (by decide) (c := 1075) (by decide) dX11_fits_81 ?_
    refine uu_geti (ci := 9) (N := 6) fX11_291 (by decide) so_1075.is (by decide) (by decide) dX11_fits_84 ?_
    refine uu_goto (tgt := 91) dX11_fits_87 (by decide) ?_
    refine uu_lv [2, 3, 1] (lv' := [(0, .ref (B + 0)), (1, .int x1), (2, .int (xs1 + (bI bs0)))]) rfl ?_
    exact xb_X11_fits_91 uk  h
def fn_X11_fits  (s : uS) : Option Bool := if (s.I 1070 8) = 0 then (fb_X11_fits_40 (((s.I 0 10) - (s.I 0 11)) + (s.I 1070 5)) false (s.I 1070 7) s) else (fb_X11_fits_40 (((s.I 0 10) - (s.I 0 11)) + (s.I 1070 5)) true (s.I 1070 7) s)
set_option maxRecDepth 100000 in
set_option maxHeartbeats 4000000 in
theorem xc_X11_fits {l : Launch} {D : va_G} {A : Nat → ClassId} {B : Nat} {Z : State → Heap → Prop} {vF : Value} (uk : uK B Z vF)  {s : uS} {r : Bool}  (h : fn_X11_fits  s = some r) : CU l D A B Z 0 mX11_fits s [.ref (B + 0)] (s, some (.int (bI r))) := by
  unfold fn_X11_fits at h
  refine cu_of rfl uk.1.1 (Nat.le_of_ble_eq_true rfl) ?_
  show GU _ _ _ _ _ _ _ _ _ 0 [(0, .ref (B + 0))] []
  refine uu_aload_n dX11_fits_0 rfl (List.mem_of_getElem? (i := 0) rfl) ?_
  refine uu_geti (ci := 11) (N := 17) fX11_150 (by decide) so_0.is (by decide) (by decide) dX11_fits_1 ?_
  refine uu_aload_n dX11_fits_4 rfl (List.mem_of_getElem? (i := 0) rfl) ?_
  refine uu_geti (ci := 11) (N := 17) fX11_191 (by decide) so_0.is (by decide) (by decide) dX11_fits_5 ?_
  refine uu_isub dX11_fits_8 ?_
  refine uu_aload_n dX11_fits_9 rfl (List.mem_of_getElem? (i := 0) rfl) ?_
  refine uu_geta (ci := 11) (N := 17) fX11_84 (by decide) so_0.is (by decide) (c := 1070) (by decide) dX11_fits_10 ?_
  refine uu_geti (ci := 7) (N := 20) fX11_276 (by decide) so_1070.is (by decide) (by decide) dX11_fits_13 ?_
  refine uu_iadd dX11_fits_16 ?_
  refine uu_istore_n dX11_fits_17 rfl (by decide) rfl ?_
  refine uu_aload_n dX11_fits_18 rfl (List.mem_of_getElem? (i := 1) rfl) ?_
  refine uu_geta (ci := 11) (N := 17) fX11_84 (by decide) so_0.is (by decide) (c := 1070) (by decide) dX11_fits_19 ?_
  refine uu_geti (ci := 7) (N := 20) fX11_279 (by decide) so_1070.is (by decide) (by decide) dX11_fits_22 ?_
  refine uu_aload_n dX11_fits_25 rfl (List.mem_of_getElem? (i := 1) rfl) ?_
  refine uu_geta (ci := 11) (N := 17) fX11_84 (by decide) so_0.is (by decide) (c := 1070) (by decide) dX11_fits_26 ?_
  refine uu_geti (ci := 7) (N := 20) fX11_282 (by decide) so_1070.is (by decide) (by decide) dX11_fits_29 ?_
  refine uu_if_eq (tgt := 39) dX11_fits_32 (by decide) (fun c1 => ?_) (fun c1 => ?_)
  · replace h := uu_pos c1 h
    refine uu_iconst (v := 0) dX11_fits_39 (by decide) ?_
    refine uu_lv [1, 0] (lv' := [(0, .ref (B + 0)), (1, .int (((s.I 0 10) - (s.I 0 11)) + (s.I 1070 5)))]) rfl ?_
    exact xb_X11_fits_40 uk  h
  · replace h := uu_neg c1 h
    refine uu_iconst (v := 1) dX11_fits_35 (by decide) ?_
    refine uu_goto (tgt := 40) dX11_fits_36 (by decide) ?_
    refine uu_lv [1, 0] (lv' := [(0, .ref (B + 0)), (1, .int (((s.I 0 10) - (s.I 0 11)) + (s.I 1070 5)))]) rfl ?_
    exact xb_X11_fits_40 uk  h
abbrev mX11_storeMail : hM := (yX11_storeMail, cX11_storeMail, 2, none)
theorem dX11_storeMail_0 : decode cX11_storeMail 0 = .ok (.aload_n 0, 1) := by decide +kernel
theorem dX11_storeMail_1 : decode cX11_storeMail 1 = .ok (.getfield 150, 3) := by decide +kernel
theorem dX11_storeMail_4 : decode cX11_storeMail 4 = .ok (.aload_n 0, 1) := by decide +kernel
theorem dX11_storeMail_5 : decode cX11_storeMail 5 = .ok (.getfield 33, 3) := by decide +kernel
theorem dX11_storeMail_8 : decode cX11_storeMail 8 = .ok (.arraylength, 1) := by decide +kernel
theorem dX11_storeMail_9 : decode cX11_storeMail 9 = .ok (.if_icmp .ge 55, 3) := by decide +kernel
theorem dX11_storeMail_64 : decode cX11_storeMail 64 = .ok (.return_, 1) := by decide +kernel
theorem dX11_storeMail_12 : decode cX11_storeMail 12 = .ok (.aload_n 0, 1) := by decide +kernel
theorem dX11_storeMail_13 : decode cX11_storeMail 13 = .ok (.getfield 33, 3) := by decide +kernel
theorem dX11_storeMail_16 : decode cX11_storeMail 16 = .ok (.aload_n 0, 1) := by decide +kernel
theorem dX11_storeMail_17 : decode cX11_storeMail 17 = .ok (.getfield 150, 3) := by decide +kernel
theorem dX11_storeMail_20 : decode cX11_storeMail 20 = .ok (.aload_n 1, 1) := by decide +kernel
theorem dX11_storeMail_21 : decode cX11_storeMail 21 = .ok (.aastore, 1) := by decide +kernel
theorem dX11_storeMail_22 : decode cX11_storeMail 22 = .ok (.aload_n 0, 1) := by decide +kernel
theorem dX11_storeMail_23 : decode cX11_storeMail 23 = .ok (.dup, 1) := by decide +kernel
theorem dX11_storeMail_24 : decode cX11_storeMail 24 = .ok (.getfield 150, 3) := by decide +kernel
theorem dX11_storeMail_27 : decode cX11_storeMail 27 = .ok (.iconst 1, 1) := by decide +kernel
theorem dX11_storeMail_28 : decode cX11_storeMail 28 = .ok (.iadd, 1) := by decide +kernel
theorem dX11_storeMail_29 : decode cX11_storeMail 29 = .ok (.putfield 150, 3) := by decide +kernel
theorem dX11_storeMail_32 : decode cX11_storeMail 32 = .ok (.aload_n 0, 1) := by decide +kernel
theorem dX11_storeMail_33 : decode cX11_storeMail 33 = .ok (.dup, 1) := by decide +kernel
theorem dX11_storeMail_34 : decode cX11_storeMail 34 = .ok (.getfield 194, 3) := by decide +kernel
theorem dX11_storeMail_37 : decode cX11_storeMail 37 = .ok (.aload_n 1, 1) := by decide +kernel
theorem dX11_storeMail_38 : decode cX11_storeMail 38 = .ok (.getfield 161, 3) := by decide +kernel
theorem dX11_storeMail_41 : decode cX11_storeMail 41 = .ok (.arraylength, 1) := by decide +kernel
theorem dX11_storeMail_42 : decode cX11_storeMail 42 = .ok (.iadd, 1) := by decide +kernel
theorem dX11_storeMail_43 : decode cX11_storeMail 43 = .ok (.putfield 194, 3) := by decide +kernel
theorem dX11_storeMail_46 : decode cX11_storeMail 46 = .ok (.aload_n 1, 1) := by decide +kernel
theorem dX11_storeMail_47 : decode cX11_storeMail 47 = .ok (.getfield 210, 3) := by decide +kernel
theorem dX11_storeMail_50 : decode cX11_storeMail 50 = .ok (.iconst (-1), 1) := by decide +kernel
theorem dX11_storeMail_51 : decode cX11_storeMail 51 = .ok (.if_icmp .ne 13, 3) := by decide +kernel
theorem dX11_storeMail_54 : decode cX11_storeMail 54 = .ok (.aload_n 0, 1) := by decide +kernel
theorem dX11_storeMail_55 : decode cX11_storeMail 55 = .ok (.dup, 1) := by decide +kernel
theorem dX11_storeMail_56 : decode cX11_storeMail 56 = .ok (.getfield 191, 3) := by decide +kernel
theorem dX11_storeMail_59 : decode cX11_storeMail 59 = .ok (.iconst 1, 1) := by decide +kernel
theorem dX11_storeMail_60 : decode cX11_storeMail 60 = .ok (.iadd, 1) := by decide +kernel
theorem dX11_storeMail_61 : decode cX11_storeMail 61 = .ok (.putfield 191, 3) := by decide +kernel
def fn_X11_storeMail (o1 : Option Nat) (s : uS) : Option uS := (match o1 with | none => (ulen s 5).bind fun v1 => if v1 ≤ (s.I 0 10) then (some s) else (none) | some ko1 => (ulen s 5).bind fun v5 => if v5 ≤ (s.I 0 10) then (some s) else ((pput s 5 (s.I 0 10) ko1).bind fun s8 => if uIs (wI s8 0 10 ((s8.I 0 10) + 1)) ko1 1 then (((wI s8 0 10 ((s8.I 0 10) + 1)).R ko1 1).bind fun j11 => (ulen (wI s8 0 10 ((s8.I 0 10) + 1)) j11).bind fun v13 => if uIs (wI (wI s8 0 10 ((s8.I 0 10) + 1)) 0 12 (((wI s8 0 10 ((s8.I 0 10) + 1)).I 0 12) + v13)) ko1 1 then (if ((wI (wI s8 0 10 ((s8.I 0 10) + 1)) 0 12 (((wI s8 0 10 ((s8.I 0 10) + 1)).I 0 12) + v13)).I ko1 2) = (-1) then (some (wI (wI (wI s8 0 10 ((s8.I 0 10) + 1)) 0 12 (((wI s8 0 10 ((s8.I 0 10) + 1)).I 0 12) + v13)) 0 11 (((wI (wI s8 0 10 ((s8.I 0 10) + 1)) 0 12 (((wI s8 0 10 ((s8.I 0 10) + 1)).I 0 12) + v13)).I 0 11) + 1))) else (some (wI (wI s8 0 10 ((s8.I 0 10) + 1)) 0 12 (((wI s8 0 10 ((s8.I 0 10) + 1)).I 0 12) + v13)))) else none) else none))
set_option maxRecDepth 100000 in
set_option maxHeartbeats 4000000 in
theorem xc_X11_storeMail {l : Launch} {D : va_G} {A : Nat → ClassId} {B : Nat} {Z : State → Heap → Prop} {vF : Value} (uk : uK B Z vF) {o1 : Option Nat} {s : uS} {r : uS}  (h : fn_X11_storeMail o1 s = some r) : CU l D A B Z 0 mX11_storeMail s [.ref (B + 0), va_rf (o1.map (fun x => B + x))] (r, none) := by
  unfold fn_X11_storeMail at h
  cases o1 with
  | none =>
    refine cu_of rfl uk.1.1 (Nat.le_of_ble_eq_true rfl) ?_
    show GU _ _ _ _ _ _ _ _ _ 0 [(0, .ref (B + 0)), (1, .null)] []
    refine uu_aload_n dX11_storeMail_0 rfl (List.mem_of_getElem? (i := 0) rfl) ?_
    refine uu_geti (ci := 11) (N := 17) fX11_150 (by decide) so_0.is (by decide) (by decide) dX11_storeMail_1 ?_
    refine uu_aload_n dX11_storeMail_4 rfl (List.mem_of_getElem? (i := 0) rfl) ?_
    refine uu_geta (ci := 11) (N := 17) fX11_33 (by decide) so_0.is (by decide) (c := 5) (by decide) dX11_storeMail_5 ?_
    obtain ⟨v1, e2, h⟩ := uu_ob h
    refine uu_alen e2 dX11_storeMail_8 ?_
    refine uu_icmp_ge (tgt := 64) dX11_storeMail_9 (by decide) (fun c3 => ?_) (fun c3 => ?_)
    · replace h := uu_pos c3 h
      have hr := Option.some.inj h
      subst hr
      exact uu_vret rfl dX11_storeMail_64
    · replace h := uu_neg c3 h
      refine uu_aload_n dX11_storeMail_12 rfl (List.mem_of_getElem? (i := 0) rfl) ?_
      refine uu_geta (ci := 11) (N := 17) fX11_33 (by decide) so_0.is (by decide) (c := 5) (by decide) dX11_storeMail_13 ?_
      refine uu_aload_n dX11_storeMail_16 rfl (List.mem_of_getElem? (i := 0) rfl) ?_
      refine uu_geti (ci := 11) (N := 17) fX11_150 (by decide) so_0.is (by decide) (by decide) dX11_storeMail_17 ?_
      refine uu_aload_nN dX11_storeMail_20 rfl (List.mem_of_getElem? (i := 1) rfl) ?_
      cases h
  | some ko1 =>
    refine cu_of rfl uk.1.1 (Nat.le_of_ble_eq_true rfl) ?_
    show GU _ _ _ _ _ _ _ _ _ 0 [(0, .ref (B + 0)), (1, .ref (B + ko1))] []
    refine uu_aload_n dX11_storeMail_0 rfl (List.mem_of_getElem? (i := 0) rfl) ?_
    refine uu_geti (ci := 11) (N := 17) fX11_150 (by decide) so_0.is (by decide) (by decide) dX11_storeMail_1 ?_
    refine uu_aload_n dX11_storeMail_4 rfl (List.mem_of_getElem? (i := 0) rfl) ?_
    refine uu_geta (ci := 11) (N := 17) fX11_33 (by decide) so_0.is (by decide) (c := 5) (by decide) dX11_storeMail_5 ?_
    obtain ⟨v5, e6, h⟩ := uu_ob h
    refine uu_alen e6 dX11_storeMail_8 ?_
    refine uu_icmp_ge (tgt := 64) dX11_storeMail_9 (by decide) (fun c7 => ?_) (fun c7 => ?_)
    · replace h := uu_pos c7 h
      have hr := Option.some.inj h
      subst hr
      exact uu_vret rfl dX11_storeMail_64
    · replace h := uu_neg c7 h
      refine uu_aload_n dX11_storeMail_12 rfl (List.mem_of_getElem? (i := 0) rfl) ?_
      refine uu_geta (ci := 11) (N := 17) fX11_33 (by decide) so_0.is (by decide) (c := 5) (by decide) dX11_storeMail_13 ?_
      refine uu_aload_n dX11_storeMail_16 rfl (List.mem_of_getElem? (i := 0) rfl) ?_
      refine uu_geti (ci := 11) (N := 17) fX11_150 (by decide) so_0.is (by decide) (by decide) dX11_storeMail_17 ?_
      refine uu_aload_n dX11_storeMail_20 rfl (List.mem_of_getElem? (i := 1) rfl) ?_
      obtain ⟨s8, e9, h⟩ := uu_ob h
      refine uu_aast e9 dX11_storeMail_21 ?_
      refine uu_aload_n dX11_storeMail_22 rfl (List.mem_of_getElem? (i := 0) rfl) ?_
      refine uu_dup dX11_storeMail_23 rfl ?_
      refine uu_geti (ci := 11) (N := 17) fX11_150 (by decide) so_0.is (by decide) (by decide) dX11_storeMail_24 ?_
      refine uu_iconst (v := 1) dX11_storeMail_27 (by decide) ?_
      refine uu_iadd dX11_storeMail_28 ?_
      refine uu_puti (ft := .int) (ci := 11) (N := 17) fX11_150 ptX11 (Or.inl rfl) (by decide) so_0.is (by decide) (by decide) (by decide +kernel) rfl rfl dX11_storeMail_29 ?_
      refine uu_aload_n dX11_storeMail_32 rfl (List.mem_of_getElem? (i := 0) rfl) ?_
      refine uu_dup dX11_storeMail_33 rfl ?_
      refine uu_geti (ci := 11) (N := 17) fX11_194 (by decide) so_0.is (by decide) (by decide) dX11_storeMail_34 ?_
      refine uu_aload_n dX11_storeMail_37 rfl (List.mem_of_getElem? (i := 1) rfl) ?_
      obtain ⟨g10, h⟩ := uu_grd h
      obtain ⟨j11, e12, h⟩ := uu_ob h
      refine uu_getr (ci := 1) (N := 6) fX11_161 (by decide) g10 (by decide) (by decide) e12 dX11_storeMail_38 ?_
      obtain ⟨v13, e14, h⟩ := uu_ob h
      refine uu_alen e14 dX11_storeMail_41 ?_
      refine uu_iadd dX11_storeMail_42 ?_
      refine uu_puti (ft := .int) (ci := 11) (N := 17) fX11_194 ptX11 (Or.inl rfl) (by decide) so_0.is (by decide) (by decide) (by decide +kernel) rfl rfl dX11_storeMail_43 ?_
      refine uu_aload_n dX11_storeMail_46 rfl (List.mem_of_getElem? (i := 1) rfl) ?_
      obtain ⟨g15, h⟩ := uu_grd h
      refine uu_geti (ci := 1) (N := 6) fX11_210 (by decide) g15 (by decide) (by decide) dX11_storeMail_47 ?_
      refine uu_iconst (v := -1) dX11_storeMail_50 (by decide) ?_
      refine uu_icmp_ne (tgt := 64) dX11_storeMail_51 (by decide) (fun c16 => ?_) (fun c16 => ?_)
      · replace h := uu_neg c16 h
        have hr := Option.some.inj h
        subst hr
        exact uu_vret rfl dX11_storeMail_64
      · replace h := uu_pos c16 h
        refine uu_aload_n dX11_storeMail_54 rfl (List.mem_of_getElem? (i := 0) rfl) ?_
        refine uu_dup dX11_storeMail_55 rfl ?_
        refine uu_geti (ci := 11) (N := 17) fX11_191 (by decide) so_0.is (by decide) (by decide) dX11_storeMail_56 ?_
        refine uu_iconst (v := 1) dX11_storeMail_59 (by decide) ?_
        refine uu_iadd dX11_storeMail_60 ?_
        refine uu_puti (ft := .int) (ci := 11) (N := 17) fX11_191 ptX11 (Or.inl rfl) (by decide) so_0.is (by decide) (by decide) (by decide +kernel) rfl rfl dX11_storeMail_61 ?_
        have hr := Option.some.inj h
        subst hr
        exact uu_vret rfl dX11_storeMail_64
abbrev mX11_haveSpace : hM := (yX11_haveSpace, cX11_haveSpace, 4, none)
theorem dX11_haveSpace_56 : decode cX11_haveSpace 56 = .ok (.aload_n 0, 1) := by decide +kernel
theorem dX11_haveSpace_57 : decode cX11_haveSpace 57 = .ok (.getfield 15, 3) := by decide +kernel
theorem dX11_haveSpace_60 : decode cX11_haveSpace 60 = .ok (.iload_n 1, 1) := by decide +kernel
theorem dX11_haveSpace_61 : decode cX11_haveSpace 61 = .ok (.aaload, 1) := by decide +kernel
theorem dX11_haveSpace_62 : decode cX11_haveSpace 62 = .ok (.ldc_w 387, 3) := by decide +kernel
theorem dX11_haveSpace_65 : decode cX11_haveSpace 65 = .ok (.invokevirtual 126, 3) := by decide +kernel
theorem dX11_haveSpace_68 : decode cX11_haveSpace 68 = .ok (.goto 15, 3) := by decide +kernel
theorem dX11_haveSpace_83 : decode cX11_haveSpace 83 = .ok (.return_, 1) := by decide +kernel
theorem dX11_haveSpace_46 : decode cX11_haveSpace 46 = .ok (.aload_n 2, 1) := by decide +kernel
theorem fX11_393 : h_fl RX11 393 8 1 RX8 TX8 8 := ⟨rfl, by decide, inX8, h_t2 39 rfl rfl⟩
theorem dX11_haveSpace_47 : decode cX11_haveSpace 47 = .ok (.getfield 393, 3) := by decide +kernel
theorem dX11_haveSpace_50 : decode cX11_haveSpace 50 = .ok (.sipush 2000, 3) := by decide +kernel
theorem dX11_haveSpace_53 : decode cX11_haveSpace 53 = .ok (.if_icmp .le 18, 3) := by decide +kernel
theorem dX11_haveSpace_71 : decode cX11_haveSpace 71 = .ok (.aload_n 0, 1) := by decide +kernel
theorem dX11_haveSpace_72 : decode cX11_haveSpace 72 = .ok (.getfield 15, 3) := by decide +kernel
theorem dX11_haveSpace_75 : decode cX11_haveSpace 75 = .ok (.iload_n 1, 1) := by decide +kernel
theorem dX11_haveSpace_76 : decode cX11_haveSpace 76 = .ok (.aaload, 1) := by decide +kernel
theorem dX11_haveSpace_77 : decode cX11_haveSpace 77 = .ok (.ldc_w 375, 3) := by decide +kernel
theorem lX11_238 : Cond.methodLink RX11 238 mX5_line.1 ∈ lw_g := h_t4 143 rfl rfl
theorem dX11_haveSpace_80 : decode cX11_haveSpace 80 = .ok (.invokevirtual 238, 3) := by decide +kernel
theorem dX11_haveSpace_29 : decode cX11_haveSpace 29 = .ok (.istore_n 3, 1) := by decide +kernel
theorem dX11_haveSpace_30 : decode cX11_haveSpace 30 = .ok (.iload_n 3, 1) := by decide +kernel
theorem dX11_haveSpace_31 : decode cX11_haveSpace 31 = .ok (.ifCond .eq 15, 3) := by decide +kernel
theorem dX11_haveSpace_34 : decode cX11_haveSpace 34 = .ok (.aload_n 0, 1) := by decide +kernel
theorem dX11_haveSpace_35 : decode cX11_haveSpace 35 = .ok (.getfield 27, 3) := by decide +kernel
theorem dX11_haveSpace_38 : decode cX11_haveSpace 38 = .ok (.iload_n 1, 1) := by decide +kernel
theorem dX11_haveSpace_39 : decode cX11_haveSpace 39 = .ok (.aaload, 1) := by decide +kernel
theorem kX10_isFull : h_ml mX10_isFull 0 := ⟨h_t7 80 rfl rfl, h_t1 8 rfl rfl, ⟨by decide, by decide, by decide +kernel⟩, by decide⟩
theorem lX11_384 : Cond.methodLink RX11 384 mX10_isFull.1 ∈ lw_g := h_t7 77 rfl rfl
theorem sX10_isFull : Cond.instanceMethod mX10_isFull.1 ∈ lw_g ∧ Cond.selects mX10_isFull.1.cls mX10_isFull.1 mX10_isFull.1 ∈ lw_g := ⟨h_t7 78 rfl rfl, h_t7 79 rfl rfl⟩
theorem dX11_haveSpace_40 : decode cX11_haveSpace 40 = .ok (.invokevirtual 384, 3) := by decide +kernel
theorem dX11_haveSpace_43 : decode cX11_haveSpace 43 = .ok (.ifCond .ne 13, 3) := by decide +kernel
theorem dX11_haveSpace_0 : decode cX11_haveSpace 0 = .ok (.aload_n 0, 1) := by decide +kernel
theorem dX11_haveSpace_1 : decode cX11_haveSpace 1 = .ok (.getfield 21, 3) := by decide +kernel
theorem dX11_haveSpace_4 : decode cX11_haveSpace 4 = .ok (.iload_n 1, 1) := by decide +kernel
theorem dX11_haveSpace_5 : decode cX11_haveSpace 5 = .ok (.aaload, 1) := by decide +kernel
theorem dX11_haveSpace_6 : decode cX11_haveSpace 6 = .ok (.astore_n 2, 1) := by decide +kernel
theorem dX11_haveSpace_7 : decode cX11_haveSpace 7 = .ok (.aload_n 0, 1) := by decide +kernel
theorem dX11_haveSpace_8 : decode cX11_haveSpace 8 = .ok (.getfield 27, 3) := by decide +kernel
theorem dX11_haveSpace_11 : decode cX11_haveSpace 11 = .ok (.iload_n 1, 1) := by decide +kernel
theorem dX11_haveSpace_12 : decode cX11_haveSpace 12 = .ok (.aaload, 1) := by decide +kernel
theorem dX11_haveSpace_13 : decode cX11_haveSpace 13 = .ok (.aload_n 2, 1) := by decide +kernel
theorem fX11_350 : h_fl RX11 350 8 0 RX8 TX8 8 := ⟨rfl, by decide, inX8, h_t2 37 rfl rfl⟩
theorem dX11_haveSpace_14 : decode cX11_haveSpace 14 = .ok (.getfield 350, 3) := by decide +kernel
theorem dX11_haveSpace_17 : decode cX11_haveSpace 17 = .ok (.iconst 0, 1) := by decide +kernel
theorem kX10_scriptNamed : h_ml mX10_scriptNamed 2 := ⟨h_t7 64 rfl rfl, h_t1 8 rfl rfl, ⟨by decide, by decide, by decide +kernel⟩, by decide⟩
theorem lX11_377 : Cond.methodLink RX11 377 mX10_scriptNamed.1 ∈ lw_g := h_t7 61 rfl rfl
theorem sX10_scriptNamed : Cond.instanceMethod mX10_scriptNamed.1 ∈ lw_g ∧ Cond.selects mX10_scriptNamed.1.cls mX10_scriptNamed.1 mX10_scriptNamed.1 ∈ lw_g := ⟨h_t7 62 rfl rfl, h_t7 63 rfl rfl⟩
theorem dX11_haveSpace_18 : decode cX11_haveSpace 18 = .ok (.invokevirtual 377, 3) := by decide +kernel
theorem dX11_haveSpace_21 : decode cX11_haveSpace 21 = .ok (.ifnonnull 7, 3) := by decide +kernel
theorem dX11_haveSpace_24 : decode cX11_haveSpace 24 = .ok (.iconst 1, 1) := by decide +kernel
theorem dX11_haveSpace_25 : decode cX11_haveSpace 25 = .ok (.goto 4, 3) := by decide +kernel
theorem dX11_haveSpace_28 : decode cX11_haveSpace 28 = .ok (.iconst 0, 1) := by decide +kernel
def fb_X11_haveSpace_56  (x1 : Int32) (s : uS) : Option uS := (pgt 24 s 2 x1).bind fun j1 => if uSo j1 5 then ((fn_X5_refusal j1 kW_4 s).bind fun s5 => some s5) else none
set_option maxRecDepth 100000 in
set_option maxHeartbeats 4000000 in
theorem xb_X11_haveSpace_56 {l : Launch} {D : va_G} {A : Nat → ClassId} {B : Nat} {Z : State → Heap → Prop} {vF : Value} (uk : uK B Z vF)   {x1 : Int32} {s : uS} {r : uS}  (h : fb_X11_haveSpace_56  x1 s = some r) : GU l D A B Z mX11_haveSpace 7 (r, none) s 56 [(0, .ref (B + 0)), (1, .int x1)] [] := by
  unfold fb_X11_haveSpace_56 at h
  refine uu_aload_n dX11_haveSpace_56 rfl (List.mem_of_getElem? (i := 0) rfl) ?_
  refine uu_geta (ci := 11) (N := 17) fX11_15 (by decide) so_0.is (by decide) (c := 2) (by decide) dX11_haveSpace_57 ?_
  refine uu_iload_n dX11_haveSpace_60 rfl (List.mem_of_getElem? (i := 1) rfl) ?_
  obtain ⟨j1, e2, h⟩ := uu_ob h
  refine uu_aald (t := 24) rfl (by decide) e2 dX11_haveSpace_61 ?_
  obtain ⟨g3, h⟩ := uu_grd h
  obtain ⟨cq4, cp4, cv4, cw4⟩ := uk.2.1 4 _ rfl
  refine uu_ldcwS cv4 dX11_haveSpace_62 ?_
  obtain ⟨s5, e6, h⟩ := uu_ob h
  refine uu_cv (d1 := 6) (k := j1) (ci := 5) (T := TX5) (N := 3) (As := [.ref cq4]) (st := []) (st' := []) (xc_X5_refusal uk g3 cw4 e6) g3.is (by decide) rfl kX5_refusal lX11_126 sX5_refusal (by decide) (Nat.le_of_ble_eq_true rfl) dX11_haveSpace_65 rfl ?_
  refine uu_goto (tgt := 83) dX11_haveSpace_68 (by decide) ?_
  have hr := Option.some.inj h
  subst hr
  exact uu_vret rfl dX11_haveSpace_83
def fb_X11_haveSpace_46  (x1 : Int32) (k2 : Nat) (s : uS) : Option uS := if (s.I k2 1) ≤ 2000 then ((pgt 24 s 2 x1).bind fun j2 => if uSo j2 5 then ((fn_X5_line j2 kW_3 s).bind fun s6 => some s6) else none) else (fb_X11_haveSpace_56 x1 s)
set_option maxRecDepth 100000 in
set_option maxHeartbeats 4000000 in
theorem xb_X11_haveSpace_46 {l : Launch} {D : va_G} {A : Nat → ClassId} {B : Nat} {Z : State → Heap → Prop} {vF : Value} (uk : uK B Z vF)   {x1 : Int32} {k2 : Nat} {s : uS} {r : uS} (hk2 : uSo k2 8) (h : fb_X11_haveSpace_46  x1 k2 s = some r) : GU l D A B Z mX11_haveSpace 7 (r, none) s 46 [(0, .ref (B + 0)), (1, .int x1), (2, .ref (B + k2))] [] := by
  unfold fb_X11_haveSpace_46 at h
  refine uu_aload_n dX11_haveSpace_46 rfl (List.mem_of_getElem? (i := 2) rfl) ?_
  refine uu_geti (ci := 8) (N := 8) fX11_393 (by decide) hk2.is (by decide) (by decide) dX11_haveSpace_47 ?_
  refine uu_sipush (v := 2000) dX11_haveSpace_50 (by decide) ?_
  refine uu_icmp_le (tgt := 71) dX11_haveSpace_53 (by decide) (fun c1 => ?_) (fun c1 => ?_)
  · replace h := uu_pos c1 h
    refine uu_aload_n dX11_haveSpace_71 rfl (List.mem_of_getElem? (i := 0) rfl) ?_
    refine uu_geta (ci := 11) (N := 17) fX11_15 (by decide) so_0.is (by decide) (c := 2) (by decide) dX11_haveSpace_72 ?_
    refine uu_iload_n dX11_haveSpace_75 rfl (List.mem_of_getElem? (i := 1) rfl) ?_
    obtain ⟨j2, e3, h⟩ := uu_ob h
    refine uu_aald (t := 24) rfl (by decide) e3 dX11_haveSpace_76 ?_
    obtain ⟨g4, h⟩ := uu_grd h
    obtain ⟨cq5, cp5, cv5, cw5⟩ := uk.2.1 3 _ rfl
    refine uu_ldcwS cv5 dX11_haveSpace_77 ?_
    obtain ⟨s6, e7, h⟩ := uu_ob h
    refine uu_cv (d1 := 5) (k := j2) (ci := 5) (T := TX5) (N := 3) (As := [.ref cq5]) (st := []) (st' := []) (xc_X5_line uk g4 cw5 e7) g4.is (by decide) rfl kX5_line lX11_238 sX5_line (by decide) (Nat.le_of_ble_eq_true rfl) dX11_haveSpace_80 rfl ?_
    have hr := Option.some.inj h
    subst hr
    exact uu_vret rfl dX11_haveSpace_83
  · replace h := uu_neg c1 h
    refine uu_lv [0, 1] (lv' := [(0, .ref (B + 0)), (1, .int x1)]) rfl ?_
    exact xb_X11_haveSpace_56 uk  h
def fb_X11_haveSpace_29  (x1 : Int32) (k2 : Nat) (bs0 : Bool) (s : uS) : Option uS := if bs0 = true then ((pgt 26 s 4 x1).bind fun j2 => if uSo j2 10 then ((fn_X10_isFull j2 s).bind fun v5 => if v5 = true then (fb_X11_haveSpace_56 x1 s) else (fb_X11_haveSpace_46 x1 k2 s)) else none) else (fb_X11_haveSpace_46 x1 k2 s)
set_option maxRecDepth 100000 in
set_option maxHeartbeats 4000000 in
theorem xb_X11_haveSpace_29 {l : Launch} {D : va_G} {A : Nat → ClassId} {B : Nat} {Z : State → Heap → Prop} {vF : Value} (uk : uK B Z vF)   {x1 : Int32} {k2 : Nat} {bs0 : Bool} {s : uS} {r : uS} (hk2 : uSo k2 8) (h : fb_X11_haveSpace_29  x1 k2 bs0 s = some r) : GU l D A B Z mX11_haveSpace 7 (r, none) s 29 [(0, .ref (B + 0)), (1, .int x1), (2, .ref (B + k2))] [.int (bI bs0)] := by
  unfold fb_X11_haveSpace_29 at h
  refine uu_istore_n dX11_haveSpace_29 rfl (by decide) rfl ?_
  refine uu_iload_n dX11_haveSpace_30 rfl (List.mem_of_getElem? (i := 0) rfl) ?_
  refine uu_ifb_eq (tgt := 46) dX11_haveSpace_31 (by decide) (fun c1 => ?_) (fun c1 => ?_)
  · replace h := uu_neg c1 h
    refine uu_lv [1, 2, 3] (lv' := [(0, .ref (B + 0)), (1, .int x1), (2, .ref (B + k2))]) rfl ?_
    exact xb_X11_haveSpace_46 uk hk2 h
  · replace h := uu_pos c1 h
    refine uu_aload_n dX11_haveSpace_34 rfl (List.mem_of_getElem? (i := 1) rfl) ?_
    refine uu_geta (ci := 11) (N := 17) fX11_27 (by decide) so_0.is (by decide) (c := 4) (by decide) dX11_haveSpace_35 ?_
    refine uu_iload_n dX11_haveSpace_38 rfl (List.mem_of_getElem? (i := 2) rfl) ?_
    obtain ⟨j2, e3, h⟩ := uu_ob h
    refine uu_aald (t := 26) rfl (by decide) e3 dX11_haveSpace_39 ?_
    obtain ⟨g4, h⟩ := uu_grd h
    obtain ⟨v5, e6, h⟩ := uu_ob h
    refine uu_cv (d1 := 0) (k := j2) (ci := 10) (T := TX10) (N := 6) (As := []) (st := []) (st' := [.int (bI v5)]) (xc_X10_isFull uk g4 e6) g4.is (by decide) rfl kX10_isFull lX11_384 sX10_isFull (by decide) (Nat.le_of_ble_eq_true rfl) dX11_haveSpace_40 rfl ?_
    refine uu_ifb_ne (tgt := 56) dX11_haveSpace_43 (by decide) (fun c7 => ?_) (fun c7 => ?_)
    · replace h := uu_pos c7 h
      refine uu_lv [1, 2] (lv' := [(0, .ref (B + 0)), (1, .int x1)]) rfl ?_
      exact xb_X11_haveSpace_56 uk  h
    · replace h := uu_neg c7 h
      refine uu_lv [1, 2, 3] (lv' := [(0, .ref (B + 0)), (1, .int x1), (2, .ref (B + k2))]) rfl ?_
      exact xb_X11_haveSpace_46 uk hk2 h
def fn_X11_haveSpace (x1 : Int32) (s : uS) : Option uS := (pgt 25 s 3 x1).bind fun j1 => if uSo j1 8 then ((pgt 26 s 4 x1).bind fun j4 => if uSo j4 10 then ((fn_X10_scriptNamed j4 (j1 + 1) 0 s).bind fun v7 => (match v7 with | none => fb_X11_haveSpace_29 x1 j1 true s | some j9 => fb_X11_haveSpace_29 x1 j1 false s)) else none) else none
set_option maxRecDepth 100000 in
set_option maxHeartbeats 4000000 in
theorem xc_X11_haveSpace {l : Launch} {D : va_G} {A : Nat → ClassId} {B : Nat} {Z : State → Heap → Prop} {vF : Value} (uk : uK B Z vF) {x1 : Int32} {s : uS} {r : uS}  (h : fn_X11_haveSpace x1 s = some r) : CU l D A B Z 7 mX11_haveSpace s [.ref (B + 0), .int x1] (r, none) := by
  unfold fn_X11_haveSpace at h
  refine cu_of rfl uk.1.1 (Nat.le_of_ble_eq_true rfl) ?_
  show GU _ _ _ _ _ _ _ _ _ 0 [(0, .ref (B + 0)), (1, .int x1)] []
  refine uu_aload_n dX11_haveSpace_0 rfl (List.mem_of_getElem? (i := 0) rfl) ?_
  refine uu_geta (ci := 11) (N := 17) fX11_21 (by decide) so_0.is (by decide) (c := 3) (by decide) dX11_haveSpace_1 ?_
  refine uu_iload_n dX11_haveSpace_4 rfl (List.mem_of_getElem? (i := 1) rfl) ?_
  obtain ⟨j1, e2, h⟩ := uu_ob h
  refine uu_aald (t := 25) rfl (by decide) e2 dX11_haveSpace_5 ?_
  obtain ⟨g3, h⟩ := uu_grd h
  refine uu_astore_n dX11_haveSpace_6 rfl (by decide) rfl ?_
  refine uu_aload_n dX11_haveSpace_7 rfl (List.mem_of_getElem? (i := 1) rfl) ?_
  refine uu_geta (ci := 11) (N := 17) fX11_27 (by decide) so_0.is (by decide) (c := 4) (by decide) dX11_haveSpace_8 ?_
  refine uu_iload_n dX11_haveSpace_11 rfl (List.mem_of_getElem? (i := 2) rfl) ?_
  obtain ⟨j4, e5, h⟩ := uu_ob h
  refine uu_aald (t := 26) rfl (by decide) e5 dX11_haveSpace_12 ?_
  obtain ⟨g6, h⟩ := uu_grd h
  refine uu_aload_n dX11_haveSpace_13 rfl (List.mem_of_getElem? (i := 0) rfl) ?_
  refine uu_getc (ci := 8) (N := 8) fX11_350 (by decide) g3.is (by decide) (c := 1) (by decide) (k2 := j1 + 1) rfl dX11_haveSpace_14 ?_
  refine uu_iconst (v := 0) dX11_haveSpace_17 (by decide) ?_
  obtain ⟨v7, e8, h⟩ := uu_ob h
  refine uu_cv (d1 := 2) (k := j4) (ci := 10) (T := TX10) (N := 6) (As := [.ref (B + (j1 + 1)), .int 0]) (st := []) (st' := [va_rf (v7.map (fun x => B + x))]) (xc_X10_scriptNamed uk g6 (so_parts g3) e8) g6.is (by decide) rfl kX10_scriptNamed lX11_377 sX10_scriptNamed (by decide) (Nat.le_of_ble_eq_true rfl) dX11_haveSpace_18 rfl ?_
  cases eo9 : v7 with
  | none =>
    rw [eo9] at h
    refine uu_ifnonnullN dX11_haveSpace_21 ?_
    refine uu_iconst (v := 1) dX11_haveSpace_24 (by decide) ?_
    refine uu_goto (tgt := 29) dX11_haveSpace_25 (by decide) ?_
    refine uu_lv [1, 2, 0] (lv' := [(0, .ref (B + 0)), (1, .int x1), (2, .ref (B + j1))]) rfl ?_
    exact xb_X11_haveSpace_29 uk g3 h
  | some j9 =>
    rw [eo9] at h
    refine uu_ifnonnull (tgt := 28) dX11_haveSpace_21 (by decide) ?_
    refine uu_iconst (v := 0) dX11_haveSpace_28 (by decide) ?_
    refine uu_lv [1, 2, 0] (lv' := [(0, .ref (B + 0)), (1, .int x1), (2, .ref (B + j1))]) rfl ?_
    exact xb_X11_haveSpace_29 uk g3 h
abbrev mX11_setActive : hM := (yX11_setActive, cX11_setActive, 4, none)
theorem dX11_setActive_49 : decode cX11_setActive 49 = .ok (.aload_n 0, 1) := by decide +kernel
theorem dX11_setActive_50 : decode cX11_setActive 50 = .ok (.invokevirtual 133, 3) := by decide +kernel
theorem dX11_setActive_53 : decode cX11_setActive 53 = .ok (.ifCond .eq 25, 3) := by decide +kernel
theorem dX11_setActive_78 : decode cX11_setActive 78 = .ok (.return_, 1) := by decide +kernel
theorem dX11_setActive_56 : decode cX11_setActive 56 = .ok (.aload_n 0, 1) := by decide +kernel
theorem dX11_setActive_57 : decode cX11_setActive 57 = .ok (.getfield 27, 3) := by decide +kernel
theorem dX11_setActive_60 : decode cX11_setActive 60 = .ok (.iload_n 1, 1) := by decide +kernel
theorem dX11_setActive_61 : decode cX11_setActive 61 = .ok (.aaload, 1) := by decide +kernel
theorem dX11_setActive_62 : decode cX11_setActive 62 = .ok (.aload_n 3, 1) := by decide +kernel
theorem fX11_244 : h_fl RX11 244 10 5 RX10 TX10 6 := ⟨rfl, by decide, inX10, h_t2 142 rfl rfl⟩
theorem dX11_setActive_63 : decode cX11_setActive 63 = .ok (.putfield 244, 3) := by decide +kernel
theorem dX11_setActive_66 : decode cX11_setActive 66 = .ok (.aload_n 0, 1) := by decide +kernel
theorem dX11_setActive_67 : decode cX11_setActive 67 = .ok (.getfield 15, 3) := by decide +kernel
theorem dX11_setActive_70 : decode cX11_setActive 70 = .ok (.iload_n 1, 1) := by decide +kernel
theorem dX11_setActive_71 : decode cX11_setActive 71 = .ok (.aaload, 1) := by decide +kernel
theorem dX11_setActive_72 : decode cX11_setActive 72 = .ok (.ldc_w 375, 3) := by decide +kernel
theorem dX11_setActive_75 : decode cX11_setActive 75 = .ok (.invokevirtual 238, 3) := by decide +kernel
theorem dX11_setActive_0 : decode cX11_setActive 0 = .ok (.aload_n 0, 1) := by decide +kernel
theorem dX11_setActive_1 : decode cX11_setActive 1 = .ok (.getfield 21, 3) := by decide +kernel
theorem dX11_setActive_4 : decode cX11_setActive 4 = .ok (.iload_n 1, 1) := by decide +kernel
theorem dX11_setActive_5 : decode cX11_setActive 5 = .ok (.aaload, 1) := by decide +kernel
theorem dX11_setActive_6 : decode cX11_setActive 6 = .ok (.getfield 350, 3) := by decide +kernel
theorem dX11_setActive_9 : decode cX11_setActive 9 = .ok (.astore_n 2, 1) := by decide +kernel
theorem dX11_setActive_10 : decode cX11_setActive 10 = .ok (.aload_n 0, 1) := by decide +kernel
theorem dX11_setActive_11 : decode cX11_setActive 11 = .ok (.getfield 27, 3) := by decide +kernel
theorem dX11_setActive_14 : decode cX11_setActive 14 = .ok (.iload_n 1, 1) := by decide +kernel
theorem dX11_setActive_15 : decode cX11_setActive 15 = .ok (.aaload, 1) := by decide +kernel
theorem dX11_setActive_16 : decode cX11_setActive 16 = .ok (.aload_n 2, 1) := by decide +kernel
theorem dX11_setActive_17 : decode cX11_setActive 17 = .ok (.iconst 0, 1) := by decide +kernel
theorem dX11_setActive_18 : decode cX11_setActive 18 = .ok (.invokevirtual 377, 3) := by decide +kernel
theorem dX11_setActive_21 : decode cX11_setActive 21 = .ok (.astore_n 3, 1) := by decide +kernel
theorem dX11_setActive_22 : decode cX11_setActive 22 = .ok (.aload_n 3, 1) := by decide +kernel
theorem dX11_setActive_23 : decode cX11_setActive 23 = .ok (.ifnonnull 26, 3) := by decide +kernel
theorem dX11_setActive_26 : decode cX11_setActive 26 = .ok (.aload_n 2, 1) := by decide +kernel
theorem dX11_setActive_27 : decode cX11_setActive 27 = .ok (.iconst 0, 1) := by decide +kernel
theorem lX11_396 : Cond.methodLink RX11 396 mX9_lengthOf.1 ∈ lw_g := h_t7 100 rfl rfl
theorem dX11_setActive_28 : decode cX11_setActive 28 = .ok (.invokevirtual 396, 3) := by decide +kernel
theorem dX11_setActive_31 : decode cX11_setActive 31 = .ok (.ifCond .le 18, 3) := by decide +kernel
theorem dX11_setActive_34 : decode cX11_setActive 34 = .ok (.aload_n 0, 1) := by decide +kernel
theorem dX11_setActive_35 : decode cX11_setActive 35 = .ok (.getfield 15, 3) := by decide +kernel
theorem dX11_setActive_38 : decode cX11_setActive 38 = .ok (.iload_n 1, 1) := by decide +kernel
theorem dX11_setActive_39 : decode cX11_setActive 39 = .ok (.aaload, 1) := by decide +kernel
theorem dX11_setActive_40 : decode cX11_setActive 40 = .ok (.ldc_w 399, 3) := by decide +kernel
theorem dX11_setActive_43 : decode cX11_setActive 43 = .ok (.invokevirtual 126, 3) := by decide +kernel
theorem dX11_setActive_46 : decode cX11_setActive 46 = .ok (.goto 32, 3) := by decide +kernel
def fb_X11_setActive_49  (x1 : Int32) (o3 : Option Nat) (s : uS) : Option uS := (match o3 with | none => (fn_X11_commit s).bind fun r1 => if r1.2 = true then ((pgt 26 r1.1 4 x1).bind fun j4 => if uSo j4 10 then ((pgt 24 (wR r1.1 j4 5 none) 2 x1).bind fun j7 => if uSo j7 5 then ((fn_X5_line j7 kW_3 (wR r1.1 j4 5 none)).bind fun s11 => some s11) else none) else none) else (some r1.1) | some ko3 => (fn_X11_commit s).bind fun r13 => if r13.2 = true then ((pgt 26 r13.1 4 x1).bind fun j16 => if uSo j16 10 then ((pgt 24 (wR r13.1 j16 5 (some ko3)) 2 x1).bind fun j19 => if uSo j19 5 then ((fn_X5_line j19 kW_3 (wR r13.1 j16 5 (some ko3))).bind fun s23 => some s23) else none) else none) else (some r13.1))
set_option maxRecDepth 100000 in
set_option maxHeartbeats 4000000 in
theorem xb_X11_setActive_49 {l : Launch} {D : va_G} {A : Nat → ClassId} {B : Nat} {Z : State → Heap → Prop} {vF : Value} (uk : uK B Z vF)   {x1 : Int32} {o3 : Option Nat} {s : uS} {r : uS}  (h : fb_X11_setActive_49  x1 o3 s = some r) : GU l D A B Z mX11_setActive 7 (r, none) s 49 [(0, .ref (B + 0)), (1, .int x1), (3, va_rf (o3.map (fun x => B + x)))] [] := by
  unfold fb_X11_setActive_49 at h
  cases o3 with
  | none =>
    refine uu_aload_n dX11_setActive_49 rfl (List.mem_of_getElem? (i := 0) rfl) ?_
    obtain ⟨r1, e2, h⟩ := uu_ob h
    refine uu_cv (d1 := 3) (k := 0) (ci := 11) (T := TX11) (N := 17) (As := []) (st := []) (st' := [.int (bI r1.2)]) (xc_X11_commit uk  e2) so_0.is (by decide) rfl kX11_commit lX11_133 sX11_commit (by decide) (Nat.le_of_ble_eq_true rfl) dX11_setActive_50 rfl ?_
    refine uu_ifb_eq (tgt := 78) dX11_setActive_53 (by decide) (fun c3 => ?_) (fun c3 => ?_)
    · replace h := uu_neg c3 h
      have hr := Option.some.inj h
      subst hr
      exact uu_vret rfl dX11_setActive_78
    · replace h := uu_pos c3 h
      refine uu_aload_n dX11_setActive_56 rfl (List.mem_of_getElem? (i := 0) rfl) ?_
      refine uu_geta (ci := 11) (N := 17) fX11_27 (by decide) so_0.is (by decide) (c := 4) (by decide) dX11_setActive_57 ?_
      refine uu_iload_n dX11_setActive_60 rfl (List.mem_of_getElem? (i := 1) rfl) ?_
      obtain ⟨j4, e5, h⟩ := uu_ob h
      refine uu_aald (t := 26) rfl (by decide) e5 dX11_setActive_61 ?_
      obtain ⟨g6, h⟩ := uu_grd h
      refine uu_aload_nN dX11_setActive_62 rfl (List.mem_of_getElem? (i := 2) rfl) ?_
      refine uu_putr (x := none) (ft := (.object "SortedMail$Entry")) (ci := 10) (N := 6) fX11_244 ptX10 (Or.inl rfl) (by decide) g6.is (by decide) (by decide) (by decide +kernel) rfl rfl dX11_setActive_63 ?_
      refine uu_aload_n dX11_setActive_66 rfl (List.mem_of_getElem? (i := 0) rfl) ?_
      refine uu_geta (ci := 11) (N := 17) fX11_15 (by decide) so_0.is (by decide) (c := 2) (by decide) dX11_setActive_67 ?_
      refine uu_iload_n dX11_setActive_70 rfl (List.mem_of_getElem? (i := 1) rfl) ?_
      obtain ⟨j7, e8, h⟩ := uu_ob h
      refine uu_aald (t := 24) rfl (by decide) e8 dX11_setActive_71 ?_
      obtain ⟨g9, h⟩ := uu_grd h
      obtain ⟨cq10, cp10, cv10, cw10⟩ := uk.2.1 3 _ rfl
      refine uu_ldcwS cv10 dX11_setActive_72 ?_
      obtain ⟨s11, e12, h⟩ := uu_ob h
      refine uu_cv (d1 := 5) (k := j7) (ci := 5) (T := TX5) (N := 3) (As := [.ref cq10]) (st := []) (st' := []) (xc_X5_line uk g9 cw10 e12) g9.is (by decide) rfl kX5_line lX11_238 sX5_line (by decide) (Nat.le_of_ble_eq_true rfl) dX11_setActive_75 rfl ?_
      have hr := Option.some.inj h
      subst hr
      exact uu_vret rfl dX11_setActive_78
  | some ko3 =>
    refine uu_aload_n dX11_setActive_49 rfl (List.mem_of_getElem? (i := 0) rfl) ?_
    obtain ⟨r13, e14, h⟩ := uu_ob h
    refine uu_cv (d1 := 3) (k := 0) (ci := 11) (T := TX11) (N := 17) (As := []) (st := []) (st' := [.int (bI r13.2)]) (xc_X11_commit uk  e14) so_0.is (by decide) rfl kX11_commit lX11_133 sX11_commit (by decide) (Nat.le_of_ble_eq_true rfl) dX11_setActive_50 rfl ?_
    refine uu_ifb_eq (tgt := 78) dX11_setActive_53 (by decide) (fun c15 => ?_) (fun c15 => ?_)
    · replace h := uu_neg c15 h
      have hr := Option.some.inj h
      subst hr
      exact uu_vret rfl dX11_setActive_78
    · replace h := uu_pos c15 h
      refine uu_aload_n dX11_setActive_56 rfl (List.mem_of_getElem? (i := 0) rfl) ?_
      refine uu_geta (ci := 11) (N := 17) fX11_27 (by decide) so_0.is (by decide) (c := 4) (by decide) dX11_setActive_57 ?_
      refine uu_iload_n dX11_setActive_60 rfl (List.mem_of_getElem? (i := 1) rfl) ?_
      obtain ⟨j16, e17, h⟩ := uu_ob h
      refine uu_aald (t := 26) rfl (by decide) e17 dX11_setActive_61 ?_
      obtain ⟨g18, h⟩ := uu_grd h
      refine uu_aload_n dX11_setActive_62 rfl (List.mem_of_getElem? (i := 2) rfl) ?_
      refine uu_putr (x := (some ko3)) (ft := (.object "SortedMail$Entry")) (ci := 10) (N := 6) fX11_244 ptX10 (Or.inl rfl) (by decide) g18.is (by decide) (by decide) (by decide +kernel) rfl rfl dX11_setActive_63 ?_
      refine uu_aload_n dX11_setActive_66 rfl (List.mem_of_getElem? (i := 0) rfl) ?_
      refine uu_geta (ci := 11) (N := 17) fX11_15 (by decide) so_0.is (by decide) (c := 2) (by decide) dX11_setActive_67 ?_
      refine uu_iload_n dX11_setActive_70 rfl (List.mem_of_getElem? (i := 1) rfl) ?_
      obtain ⟨j19, e20, h⟩ := uu_ob h
      refine uu_aald (t := 24) rfl (by decide) e20 dX11_setActive_71 ?_
      obtain ⟨g21, h⟩ := uu_grd h
      obtain ⟨cq22, cp22, cv22, cw22⟩ := uk.2.1 3 _ rfl
      refine uu_ldcwS cv22 dX11_setActive_72 ?_
      obtain ⟨s23, e24, h⟩ := uu_ob h
      refine uu_cv (d1 := 5) (k := j19) (ci := 5) (T := TX5) (N := 3) (As := [.ref cq22]) (st := []) (st' := []) (xc_X5_line uk g21 cw22 e24) g21.is (by decide) rfl kX5_line lX11_238 sX5_line (by decide) (Nat.le_of_ble_eq_true rfl) dX11_setActive_75 rfl ?_
      have hr := Option.some.inj h
      subst hr
      exact uu_vret rfl dX11_setActive_78
def fn_X11_setActive (x1 : Int32) (s : uS) : Option uS := (pgt 25 s 3 x1).bind fun j1 => if uSo j1 8 then ((pgt 26 s 4 x1).bind fun j4 => if uSo j4 10 then ((fn_X10_scriptNamed j4 (j1 + 1) 0 s).bind fun v7 => (match v7 with | none => (fn_X9_lengthOf (j1 + 1) 0 s).bind fun v10 => if v10 ≤ 0 then (fb_X11_setActive_49 x1 none s) else ((pgt 24 s 2 x1).bind fun j13 => if uSo j13 5 then ((fn_X5_refusal j13 kW_5 s).bind fun s17 => some s17) else none) | some j9 => fb_X11_setActive_49 x1 (some j9) s)) else none) else none
set_option maxRecDepth 100000 in
set_option maxHeartbeats 4000000 in
theorem xc_X11_setActive {l : Launch} {D : va_G} {A : Nat → ClassId} {B : Nat} {Z : State → Heap → Prop} {vF : Value} (uk : uK B Z vF) {x1 : Int32} {s : uS} {r : uS}  (h : fn_X11_setActive x1 s = some r) : CU l D A B Z 7 mX11_setActive s [.ref (B + 0), .int x1] (r, none) := by
  unfold fn_X11_setActive at h
  refine cu_of rfl uk.1.1 (Nat.le_of_ble_eq_true rfl) ?_
  show GU _ _ _ _ _ _ _ _ _ 0 [(0, .ref (B + 0)), (1, .int x1)] []
  refine uu_aload_n dX11_setActive_0 rfl (List.mem_of_getElem? (i := 0) rfl) ?_
  refine uu_geta (ci := 11) (N := 17) fX11_21 (by decide) so_0.is (by decide) (c := 3) (by decide) dX11_setActive_1 ?_
  refine uu_iload_n dX11_setActive_4 rfl (List.mem_of_getElem? (i := 1) rfl) ?_
  obtain ⟨j1, e2, h⟩ := uu_ob h
  refine uu_aald (t := 25) rfl (by decide) e2 dX11_setActive_5 ?_
  obtain ⟨g3, h⟩ := uu_grd h
  refine uu_getc (ci := 8) (N := 8) fX11_350 (by decide) g3.is (by decide) (c := 1) (by decide) (k2 := j1 + 1) rfl dX11_setActive_6 ?_
  refine uu_astore_n dX11_setActive_9 rfl (by decide) rfl ?_
  refine uu_aload_n dX11_setActive_10 rfl (List.mem_of_getElem? (i := 1) rfl) ?_
  refine uu_geta (ci := 11) (N := 17) fX11_27 (by decide) so_0.is (by decide) (c := 4) (by decide) dX11_setActive_11 ?_
  refine uu_iload_n dX11_setActive_14 rfl (List.mem_of_getElem? (i := 2) rfl) ?_
  obtain ⟨j4, e5, h⟩ := uu_ob h
  refine uu_aald (t := 26) rfl (by decide) e5 dX11_setActive_15 ?_
  obtain ⟨g6, h⟩ := uu_grd h
  refine uu_aload_n dX11_setActive_16 rfl (List.mem_of_getElem? (i := 0) rfl) ?_
  refine uu_iconst (v := 0) dX11_setActive_17 (by decide) ?_
  obtain ⟨v7, e8, h⟩ := uu_ob h
  refine uu_cv (d1 := 2) (k := j4) (ci := 10) (T := TX10) (N := 6) (As := [.ref (B + (j1 + 1)), .int 0]) (st := []) (st' := [va_rf (v7.map (fun x => B + x))]) (xc_X10_scriptNamed uk g6 (so_parts g3) e8) g6.is (by decide) rfl kX10_scriptNamed lX11_377 sX10_scriptNamed (by decide) (Nat.le_of_ble_eq_true rfl) dX11_setActive_18 rfl ?_
  cases eo9 : v7 with
  | none =>
    rw [eo9] at h
    refine uu_astore_nN dX11_setActive_21 rfl (by decide) rfl ?_
    refine uu_aload_nN dX11_setActive_22 rfl (List.mem_of_getElem? (i := 0) rfl) ?_
    refine uu_ifnonnullN dX11_setActive_23 ?_
    refine uu_aload_n dX11_setActive_26 rfl (List.mem_of_getElem? (i := 1) rfl) ?_
    refine uu_iconst (v := 0) dX11_setActive_27 (by decide) ?_
    obtain ⟨v10, e11, h⟩ := uu_ob h
    refine uu_cv (d1 := 0) (k := j1 + 1) (ci := 9) (T := TX9) (N := 6) (As := [.int 0]) (st := []) (st' := [.int v10]) (xc_X9_lengthOf uk (so_parts g3) e11) (so_parts g3).is (by decide) rfl kX9_lengthOf lX11_396 sX9_lengthOf (by decide) (Nat.le_of_ble_eq_true rfl) dX11_setActive_28 rfl ?_
    refine uu_if_le (tgt := 49) dX11_setActive_31 (by decide) (fun c12 => ?_) (fun c12 => ?_)
    · replace h := uu_pos c12 h
      refine uu_lv [2, 3, 0] (lv' := [(0, .ref (B + 0)), (1, .int x1), (3, .null)]) rfl ?_
      exact xb_X11_setActive_49 uk  h
    · replace h := uu_neg c12 h
      refine uu_aload_n dX11_setActive_34 rfl (List.mem_of_getElem? (i := 2) rfl) ?_
      refine uu_geta (ci := 11) (N := 17) fX11_15 (by decide) so_0.is (by decide) (c := 2) (by decide) dX11_setActive_35 ?_
      refine uu_iload_n dX11_setActive_38 rfl (List.mem_of_getElem? (i := 3) rfl) ?_
      obtain ⟨j13, e14, h⟩ := uu_ob h
      refine uu_aald (t := 24) rfl (by decide) e14 dX11_setActive_39 ?_
      obtain ⟨g15, h⟩ := uu_grd h
      obtain ⟨cq16, cp16, cv16, cw16⟩ := uk.2.1 5 _ rfl
      refine uu_ldcwS cv16 dX11_setActive_40 ?_
      obtain ⟨s17, e18, h⟩ := uu_ob h
      refine uu_cv (d1 := 6) (k := j13) (ci := 5) (T := TX5) (N := 3) (As := [.ref cq16]) (st := []) (st' := []) (xc_X5_refusal uk g15 cw16 e18) g15.is (by decide) rfl kX5_refusal lX11_126 sX5_refusal (by decide) (Nat.le_of_ble_eq_true rfl) dX11_setActive_43 rfl ?_
      refine uu_goto (tgt := 78) dX11_setActive_46 (by decide) ?_
      have hr := Option.some.inj h
      subst hr
      exact uu_vret rfl dX11_setActive_78
  | some j9 =>
    rw [eo9] at h
    refine uu_astore_n dX11_setActive_21 rfl (by decide) rfl ?_
    refine uu_aload_n dX11_setActive_22 rfl (List.mem_of_getElem? (i := 0) rfl) ?_
    refine uu_ifnonnull (tgt := 49) dX11_setActive_23 (by decide) ?_
    refine uu_lv [2, 3, 0] (lv' := [(0, .ref (B + 0)), (1, .int x1), (3, .ref (B + j9))]) rfl ?_
    exact xb_X11_setActive_49 uk  h
abbrev mX11_getScript : hM := (yX11_getScript, cX11_getScript, 3, none)
theorem dX11_getScript_0 : decode cX11_getScript 0 = .ok (.aload_n 0, 1) := by decide +kernel
theorem dX11_getScript_1 : decode cX11_getScript 1 = .ok (.getfield 27, 3) := by decide +kernel
theorem dX11_getScript_4 : decode cX11_getScript 4 = .ok (.iload_n 1, 1) := by decide +kernel
theorem dX11_getScript_5 : decode cX11_getScript 5 = .ok (.aaload, 1) := by decide +kernel
theorem dX11_getScript_6 : decode cX11_getScript 6 = .ok (.aload_n 0, 1) := by decide +kernel
theorem dX11_getScript_7 : decode cX11_getScript 7 = .ok (.getfield 21, 3) := by decide +kernel
theorem dX11_getScript_10 : decode cX11_getScript 10 = .ok (.iload_n 1, 1) := by decide +kernel
theorem dX11_getScript_11 : decode cX11_getScript 11 = .ok (.aaload, 1) := by decide +kernel
theorem dX11_getScript_12 : decode cX11_getScript 12 = .ok (.getfield 350, 3) := by decide +kernel
theorem dX11_getScript_15 : decode cX11_getScript 15 = .ok (.iconst 0, 1) := by decide +kernel
theorem dX11_getScript_16 : decode cX11_getScript 16 = .ok (.invokevirtual 377, 3) := by decide +kernel
theorem dX11_getScript_19 : decode cX11_getScript 19 = .ok (.astore_n 2, 1) := by decide +kernel
theorem dX11_getScript_20 : decode cX11_getScript 20 = .ok (.aload_n 2, 1) := by decide +kernel
theorem dX11_getScript_21 : decode cX11_getScript 21 = .ok (.ifnonnull 18, 3) := by decide +kernel
theorem dX11_getScript_24 : decode cX11_getScript 24 = .ok (.aload_n 0, 1) := by decide +kernel
theorem dX11_getScript_25 : decode cX11_getScript 25 = .ok (.getfield 15, 3) := by decide +kernel
theorem dX11_getScript_28 : decode cX11_getScript 28 = .ok (.iload_n 1, 1) := by decide +kernel
theorem dX11_getScript_29 : decode cX11_getScript 29 = .ok (.aaload, 1) := by decide +kernel
theorem dX11_getScript_30 : decode cX11_getScript 30 = .ok (.ldc_w 399, 3) := by decide +kernel
theorem dX11_getScript_33 : decode cX11_getScript 33 = .ok (.invokevirtual 126, 3) := by decide +kernel
theorem dX11_getScript_36 : decode cX11_getScript 36 = .ok (.goto 28, 3) := by decide +kernel
theorem dX11_getScript_64 : decode cX11_getScript 64 = .ok (.return_, 1) := by decide +kernel
theorem dX11_getScript_39 : decode cX11_getScript 39 = .ok (.aload_n 0, 1) := by decide +kernel
theorem dX11_getScript_40 : decode cX11_getScript 40 = .ok (.getfield 15, 3) := by decide +kernel
theorem dX11_getScript_43 : decode cX11_getScript 43 = .ok (.iload_n 1, 1) := by decide +kernel
theorem dX11_getScript_44 : decode cX11_getScript 44 = .ok (.aaload, 1) := by decide +kernel
theorem dX11_getScript_45 : decode cX11_getScript 45 = .ok (.aload_n 2, 1) := by decide +kernel
theorem dX11_getScript_46 : decode cX11_getScript 46 = .ok (.getfield 161, 3) := by decide +kernel
theorem kX5_script : h_ml mX5_script 1 := ⟨h_t7 109 rfl rfl, h_t1 6 rfl rfl, ⟨by decide, by decide, by decide +kernel⟩, by decide⟩
theorem lX11_401 : Cond.methodLink RX11 401 mX5_script.1 ∈ lw_g := h_t7 106 rfl rfl
theorem sX5_script : Cond.instanceMethod mX5_script.1 ∈ lw_g ∧ Cond.selects mX5_script.1.cls mX5_script.1 mX5_script.1 ∈ lw_g := ⟨h_t7 107 rfl rfl, h_t7 108 rfl rfl⟩
theorem dX11_getScript_49 : decode cX11_getScript 49 = .ok (.invokevirtual 401, 3) := by decide +kernel
theorem dX11_getScript_52 : decode cX11_getScript 52 = .ok (.aload_n 0, 1) := by decide +kernel
theorem dX11_getScript_53 : decode cX11_getScript 53 = .ok (.getfield 15, 3) := by decide +kernel
theorem dX11_getScript_56 : decode cX11_getScript 56 = .ok (.iload_n 1, 1) := by decide +kernel
theorem dX11_getScript_57 : decode cX11_getScript 57 = .ok (.aaload, 1) := by decide +kernel
theorem dX11_getScript_58 : decode cX11_getScript 58 = .ok (.ldc_w 375, 3) := by decide +kernel
theorem dX11_getScript_61 : decode cX11_getScript 61 = .ok (.invokevirtual 238, 3) := by decide +kernel
def fn_X11_getScript (x1 : Int32) (s : uS) : Option uS := (pgt 26 s 4 x1).bind fun j1 => if uSo j1 10 then ((pgt 25 s 3 x1).bind fun j4 => if uSo j4 8 then ((fn_X10_scriptNamed j1 (j4 + 1) 0 s).bind fun v7 => (match v7 with | none => (pgt 24 s 2 x1).bind fun j10 => if uSo j10 5 then ((fn_X5_refusal j10 kW_5 s).bind fun s14 => some s14) else none | some j9 => (pgt 24 s 2 x1).bind fun j16 => if uSo j16 5 then (if uIs s j9 1 then ((s.R j9 1).bind fun j20 => (fn_X5_script j16 j20 s).bind fun s22 => (pgt 24 s22 2 x1).bind fun j24 => if uSo j24 5 then ((fn_X5_line j24 kW_3 s22).bind fun s28 => some s28) else none) else none) else none)) else none) else none
set_option maxRecDepth 100000 in
set_option maxHeartbeats 4000000 in
theorem xc_X11_getScript {l : Launch} {D : va_G} {A : Nat → ClassId} {B : Nat} {Z : State → Heap → Prop} {vF : Value} (uk : uK B Z vF) {x1 : Int32} {s : uS} {r : uS}  (h : fn_X11_getScript x1 s = some r) : CU l D A B Z 7 mX11_getScript s [.ref (B + 0), .int x1] (r, none) := by
  unfold fn_X11_getScript at h
  refine cu_of rfl uk.1.1 (Nat.le_of_ble_eq_true rfl) ?_
  show GU _ _ _ _ _ _ _ _ _ 0 [(0, .ref (B + 0)), (1, .int x1)] []
  refine uu_aload_n dX11_getScript_0 rfl (List.mem_of_getElem? (i := 0) rfl) ?_
  refine uu_geta (ci := 11) (N := 17) fX11_27 (by decide) so_0.is (by decide) (c := 4) (by decide) dX11_getScript_1 ?_
  refine uu_iload_n dX11_getScript_4 rfl (List.mem_of_getElem? (i := 1) rfl) ?_
  obtain ⟨j1, e2, h⟩ := uu_ob h
  refine uu_aald (t := 26) rfl (by decide) e2 dX11_getScript_5 ?_
  obtain ⟨g3, h⟩ := uu_grd h
  refine uu_aload_n dX11_getScript_6 rfl (List.mem_of_getElem? (i := 0) rfl) ?_
  refine uu_geta (ci := 11) (N := 17) fX11_21 (by decide) so_0.is (by decide) (c := 3) (by decide) dX11_getScript_7 ?_
  refine uu_iload_n dX11_getScript_10 rfl (List.mem_of_getElem? (i := 1) rfl) ?_
  obtain ⟨j4, e5, h⟩ := uu_ob h
  refine uu_aald (t := 25) rfl (by decide) e5 dX11_getScript_11 ?_
  obtain ⟨g6, h⟩ := uu_grd h
  refine uu_getc (ci := 8) (N := 8) fX11_350 (by decide) g6.is (by decide) (c := 1) (by decide) (k2 := j4 + 1) rfl dX11_getScript_12 ?_
  refine uu_iconst (v := 0) dX11_getScript_15 (by decide) ?_
  obtain ⟨v7, e8, h⟩ := uu_ob h
  refine uu_cv (d1 := 2) (k := j1) (ci := 10) (T := TX10) (N := 6) (As := [.ref (B + (j4 + 1)), .int 0]) (st := []) (st' := [va_rf (v7.map (fun x => B + x))]) (xc_X10_scriptNamed uk g3 (so_parts g6) e8) g3.is (by decide) rfl kX10_scriptNamed lX11_377 sX10_scriptNamed (by decide) (Nat.le_of_ble_eq_true rfl) dX11_getScript_16 rfl ?_
  cases eo9 : v7 with
  | none =>
    rw [eo9] at h
    refine uu_astore_nN dX11_getScript_19 rfl (by decide) rfl ?_
    refine uu_aload_nN dX11_getScript_20 rfl (List.mem_of_getElem? (i := 0) rfl) ?_
    refine uu_ifnonnullN dX11_getScript_21 ?_
    refine uu_aload_n dX11_getScript_24 rfl (List.mem_of_getElem? (i := 1) rfl) ?_
    refine uu_geta (ci := 11) (N := 17) fX11_15 (by decide) so_0.is (by decide) (c := 2) (by decide) dX11_getScript_25 ?_
    refine uu_iload_n dX11_getScript_28 rfl (List.mem_of_getElem? (i := 2) rfl) ?_
    obtain ⟨j10, e11, h⟩ := uu_ob h
    refine uu_aald (t := 24) rfl (by decide) e11 dX11_getScript_29 ?_
    obtain ⟨g12, h⟩ := uu_grd h
    obtain ⟨cq13, cp13, cv13, cw13⟩ := uk.2.1 5 _ rfl
    refine uu_ldcwS cv13 dX11_getScript_30 ?_
    obtain ⟨s14, e15, h⟩ := uu_ob h
    refine uu_cv (d1 := 6) (k := j10) (ci := 5) (T := TX5) (N := 3) (As := [.ref cq13]) (st := []) (st' := []) (xc_X5_refusal uk g12 cw13 e15) g12.is (by decide) rfl kX5_refusal lX11_126 sX5_refusal (by decide) (Nat.le_of_ble_eq_true rfl) dX11_getScript_33 rfl ?_
    refine uu_goto (tgt := 64) dX11_getScript_36 (by decide) ?_
    have hr := Option.some.inj h
    subst hr
    exact uu_vret rfl dX11_getScript_64
  | some j9 =>
    rw [eo9] at h
    refine uu_astore_n dX11_getScript_19 rfl (by decide) rfl ?_
    refine uu_aload_n dX11_getScript_20 rfl (List.mem_of_getElem? (i := 0) rfl) ?_
    refine uu_ifnonnull (tgt := 39) dX11_getScript_21 (by decide) ?_
    refine uu_aload_n dX11_getScript_39 rfl (List.mem_of_getElem? (i := 1) rfl) ?_
    refine uu_geta (ci := 11) (N := 17) fX11_15 (by decide) so_0.is (by decide) (c := 2) (by decide) dX11_getScript_40 ?_
    refine uu_iload_n dX11_getScript_43 rfl (List.mem_of_getElem? (i := 2) rfl) ?_
    obtain ⟨j16, e17, h⟩ := uu_ob h
    refine uu_aald (t := 24) rfl (by decide) e17 dX11_getScript_44 ?_
    obtain ⟨g18, h⟩ := uu_grd h
    refine uu_aload_n dX11_getScript_45 rfl (List.mem_of_getElem? (i := 0) rfl) ?_
    obtain ⟨g19, h⟩ := uu_grd h
    obtain ⟨j20, e21, h⟩ := uu_ob h
    refine uu_getr (ci := 1) (N := 6) fX11_161 (by decide) g19 (by decide) (by decide) e21 dX11_getScript_46 ?_
    obtain ⟨s22, e23, h⟩ := uu_ob h
    refine uu_cv (d1 := 6) (k := j16) (ci := 5) (T := TX5) (N := 3) (As := [.ref (B + j20)]) (st := []) (st' := []) (xc_X5_script uk g18 e23) g18.is (by decide) rfl kX5_script lX11_401 sX5_script (by decide) (Nat.le_of_ble_eq_true rfl) dX11_getScript_49 rfl ?_
    refine uu_aload_n dX11_getScript_52 rfl (List.mem_of_getElem? (i := 1) rfl) ?_
    refine uu_geta (ci := 11) (N := 17) fX11_15 (by decide) so_0.is (by decide) (c := 2) (by decide) dX11_getScript_53 ?_
    refine uu_iload_n dX11_getScript_56 rfl (List.mem_of_getElem? (i := 2) rfl) ?_
    obtain ⟨j24, e25, h⟩ := uu_ob h
    refine uu_aald (t := 24) rfl (by decide) e25 dX11_getScript_57 ?_
    obtain ⟨g26, h⟩ := uu_grd h
    obtain ⟨cq27, cp27, cv27, cw27⟩ := uk.2.1 3 _ rfl
    refine uu_ldcwS cv27 dX11_getScript_58 ?_
    obtain ⟨s28, e29, h⟩ := uu_ob h
    refine uu_cv (d1 := 5) (k := j24) (ci := 5) (T := TX5) (N := 3) (As := [.ref cq27]) (st := []) (st' := []) (xc_X5_line uk g26 cw27 e29) g26.is (by decide) rfl kX5_line lX11_238 sX5_line (by decide) (Nat.le_of_ble_eq_true rfl) dX11_getScript_61 rfl ?_
    have hr := Option.some.inj h
    subst hr
    exact uu_vret rfl dX11_getScript_64
