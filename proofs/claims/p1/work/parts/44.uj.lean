abbrev mX11_listScripts : hM := (yX11_listScripts, cX11_listScripts, 5, none)
theorem dX11_listScripts_63 : decode cX11_listScripts 63 = .ok (.invokevirtual 238, 3) := by decide +kernel
theorem dX11_listScripts_66 : decode cX11_listScripts 66 = .ok (.iinc 3 1, 3) := by decide +kernel
theorem dX11_listScripts_69 : decode cX11_listScripts 69 = .ok (.goto (-60), 3) := by decide +kernel
theorem dX11_listScripts_9 : decode cX11_listScripts 9 = .ok (.iload_n 3, 1) := by decide +kernel
theorem dX11_listScripts_10 : decode cX11_listScripts 10 = .ok (.aload_n 2, 1) := by decide +kernel
theorem dX11_listScripts_11 : decode cX11_listScripts 11 = .ok (.getfield 201, 3) := by decide +kernel
theorem dX11_listScripts_14 : decode cX11_listScripts 14 = .ok (.if_icmp .ge 58, 3) := by decide +kernel
theorem dX11_listScripts_72 : decode cX11_listScripts 72 = .ok (.aload_n 0, 1) := by decide +kernel
theorem dX11_listScripts_73 : decode cX11_listScripts 73 = .ok (.getfield 15, 3) := by decide +kernel
theorem dX11_listScripts_76 : decode cX11_listScripts 76 = .ok (.iload_n 1, 1) := by decide +kernel
theorem dX11_listScripts_77 : decode cX11_listScripts 77 = .ok (.aaload, 1) := by decide +kernel
theorem dX11_listScripts_78 : decode cX11_listScripts 78 = .ok (.ldc_w 375, 3) := by decide +kernel
theorem dX11_listScripts_81 : decode cX11_listScripts 81 = .ok (.invokevirtual 238, 3) := by decide +kernel
theorem dX11_listScripts_84 : decode cX11_listScripts 84 = .ok (.return_, 1) := by decide +kernel
theorem dX11_listScripts_17 : decode cX11_listScripts 17 = .ok (.aload_n 2, 1) := by decide +kernel
theorem fX11_405 : h_fl RX11 405 10 0 RX10 TX10 6 := ⟨rfl, by decide, inX10, h_t2 133 rfl rfl⟩
theorem dX11_listScripts_18 : decode cX11_listScripts 18 = .ok (.getfield 405, 3) := by decide +kernel
theorem dX11_listScripts_21 : decode cX11_listScripts 21 = .ok (.iload_n 3, 1) := by decide +kernel
theorem dX11_listScripts_22 : decode cX11_listScripts 22 = .ok (.aaload, 1) := by decide +kernel
theorem dX11_listScripts_23 : decode cX11_listScripts 23 = .ok (.astore 4, 2) := by decide +kernel
theorem dX11_listScripts_25 : decode cX11_listScripts 25 = .ok (.aload_n 0, 1) := by decide +kernel
theorem dX11_listScripts_26 : decode cX11_listScripts 26 = .ok (.getfield 15, 3) := by decide +kernel
theorem dX11_listScripts_29 : decode cX11_listScripts 29 = .ok (.iload_n 1, 1) := by decide +kernel
theorem dX11_listScripts_30 : decode cX11_listScripts 30 = .ok (.aaload, 1) := by decide +kernel
theorem dX11_listScripts_31 : decode cX11_listScripts 31 = .ok (.aload 4, 2) := by decide +kernel
theorem dX11_listScripts_33 : decode cX11_listScripts 33 = .ok (.getfield 173, 3) := by decide +kernel
theorem kX5_quoted : h_ml mX5_quoted 1 := ⟨h_t7 120 rfl rfl, h_t1 6 rfl rfl, ⟨by decide, by decide, by decide +kernel⟩, by decide⟩
theorem lX11_408 : Cond.methodLink RX11 408 mX5_quoted.1 ∈ lw_g := h_t7 117 rfl rfl
theorem sX5_quoted : Cond.instanceMethod mX5_quoted.1 ∈ lw_g ∧ Cond.selects mX5_quoted.1.cls mX5_quoted.1 mX5_quoted.1 ∈ lw_g := ⟨h_t7 118 rfl rfl, h_t7 119 rfl rfl⟩
theorem dX11_listScripts_36 : decode cX11_listScripts 36 = .ok (.invokevirtual 408, 3) := by decide +kernel
theorem dX11_listScripts_39 : decode cX11_listScripts 39 = .ok (.aload_n 0, 1) := by decide +kernel
theorem dX11_listScripts_40 : decode cX11_listScripts 40 = .ok (.getfield 15, 3) := by decide +kernel
theorem dX11_listScripts_43 : decode cX11_listScripts 43 = .ok (.iload_n 1, 1) := by decide +kernel
theorem dX11_listScripts_44 : decode cX11_listScripts 44 = .ok (.aaload, 1) := by decide +kernel
theorem dX11_listScripts_45 : decode cX11_listScripts 45 = .ok (.aload 4, 2) := by decide +kernel
theorem dX11_listScripts_47 : decode cX11_listScripts 47 = .ok (.aload_n 2, 1) := by decide +kernel
theorem dX11_listScripts_48 : decode cX11_listScripts 48 = .ok (.getfield 244, 3) := by decide +kernel
theorem dX11_listScripts_51 : decode cX11_listScripts 51 = .ok (.if_acmp .ne 9, 3) := by decide +kernel
theorem dX11_listScripts_60 : decode cX11_listScripts 60 = .ok (.ldc_w 413, 3) := by decide +kernel
theorem dX11_listScripts_54 : decode cX11_listScripts 54 = .ok (.ldc_w 411, 3) := by decide +kernel
theorem dX11_listScripts_57 : decode cX11_listScripts 57 = .ok (.goto 6, 3) := by decide +kernel
theorem dX11_listScripts_0 : decode cX11_listScripts 0 = .ok (.aload_n 0, 1) := by decide +kernel
theorem dX11_listScripts_1 : decode cX11_listScripts 1 = .ok (.getfield 27, 3) := by decide +kernel
theorem dX11_listScripts_4 : decode cX11_listScripts 4 = .ok (.iload_n 1, 1) := by decide +kernel
theorem dX11_listScripts_5 : decode cX11_listScripts 5 = .ok (.aaload, 1) := by decide +kernel
theorem dX11_listScripts_6 : decode cX11_listScripts 6 = .ok (.astore_n 2, 1) := by decide +kernel
theorem dX11_listScripts_7 : decode cX11_listScripts 7 = .ok (.iconst 0, 1) := by decide +kernel
theorem dX11_listScripts_8 : decode cX11_listScripts 8 = .ok (.istore_n 3, 1) := by decide +kernel
def fb_X11_listScripts_63 (K9 : Int32 → Nat → Int32 → uS → Option uS) (x1 : Int32) (k2 : Nat) (x3 : Int32) (ws0 : List Nat) (ks1 : Nat) (s : uS) : Option uS := (fn_X5_line ks1 ws0 s).bind fun s1 => K9 x1 k2 (x3 + 1) s1
set_option maxRecDepth 100000 in
set_option maxHeartbeats 4000000 in
theorem xb_X11_listScripts_63 {l : Launch} {D : va_G} {A : Nat → ClassId} {B : Nat} {Z : State → Heap → Prop} {vF : Value} (uk : uK B Z vF) {K9 : Int32 → Nat → Int32 → uS → Option uS} (hK9 : ∀ (x1 : Int32) (k2 : Nat) (x3 : Int32) (hk2 : uSo k2 10) (s : uS) (r : uS), K9 x1 k2 x3 s = some r → GU l D A B Z mX11_listScripts 6 (r, none) s 9 [(0, .ref (B + 0)), (1, .int x1), (2, .ref (B + k2)), (3, .int x3)] []) {x1 : Int32} {k2 : Nat} {x3 : Int32} {ws0 : List Nat} {ks1 : Nat} {s : uS} {r : uS} (hk2 : uSo k2 10) {qws0 pws0 : Nat} (hws0 : uStr B Z qws0 pws0 ws0) (hks1 : uSo ks1 5) (h : fb_X11_listScripts_63 K9 x1 k2 x3 ws0 ks1 s = some r) : GU l D A B Z mX11_listScripts 6 (r, none) s 63 [(0, .ref (B + 0)), (1, .int x1), (2, .ref (B + k2)), (3, .int x3)] [.ref qws0, .ref (B + ks1)] := by
  unfold fb_X11_listScripts_63 at h
  obtain ⟨s1, e2, h⟩ := uu_ob h
  refine uu_cv (d1 := 5) (k := ks1) (ci := 5) (T := TX5) (N := 3) (As := [.ref qws0]) (st := []) (st' := []) (xc_X5_line uk hks1 hws0 e2) hks1.is (by decide) rfl kX5_line lX11_238 sX5_line (by decide) (Nat.le_of_ble_eq_true rfl) dX11_listScripts_63 rfl ?_
  refine uu_iinc (v := x3 + 1) dX11_listScripts_66 (k := 3) rfl rfl (by decide) rfl ?_
  refine uu_goto (tgt := 9) dX11_listScripts_69 (by decide) ?_
  refine uu_lv [1, 2, 3, 0] (lv' := [(0, .ref (B + 0)), (1, .int x1), (2, .ref (B + k2)), (3, .int (x3 + 1))]) rfl ?_
  exact hK9 x1 k2 (x3 + 1) hk2 _ _ h
def fb_X11_listScripts_9 (K9 : Int32 → Nat → Int32 → uS → Option uS) (x1 : Int32) (k2 : Nat) (x3 : Int32) (s : uS) : Option uS := if (s.I k2 3) ≤ x3 then ((pgt 24 s 2 x1).bind fun j2 => if uSo j2 5 then ((fn_X5_line j2 kW_3 s).bind fun s6 => some s6) else none) else ((pgt 27 s (k2 + 1) x3).bind fun j8 => (pgt 24 s 2 x1).bind fun j10 => if uSo j10 5 then (if uIs s j8 1 then ((s.R j8 0).bind fun j14 => if ¬ j14 = 0 then ((fn_X5_quoted j10 j14 s).bind fun s17 => (pgt 24 s17 2 x1).bind fun j19 => if uSo j19 5 then ((match s17.R k2 5 with | none => if (some j8 : Option Nat) = none then (fb_X11_listScripts_63 K9 x1 k2 x3 kW_6 j19 s17) else (fb_X11_listScripts_63 K9 x1 k2 x3 kW_7 j19 s17) | some j22 => if (some j8 : Option Nat) = some j22 then (fb_X11_listScripts_63 K9 x1 k2 x3 kW_6 j19 s17) else (fb_X11_listScripts_63 K9 x1 k2 x3 kW_7 j19 s17))) else none) else none) else none) else none)
set_option maxRecDepth 100000 in
set_option maxHeartbeats 4000000 in
theorem xb_X11_listScripts_9 {l : Launch} {D : va_G} {A : Nat → ClassId} {B : Nat} {Z : State → Heap → Prop} {vF : Value} (uk : uK B Z vF) {K9 : Int32 → Nat → Int32 → uS → Option uS} (hK9 : ∀ (x1 : Int32) (k2 : Nat) (x3 : Int32) (hk2 : uSo k2 10) (s : uS) (r : uS), K9 x1 k2 x3 s = some r → GU l D A B Z mX11_listScripts 6 (r, none) s 9 [(0, .ref (B + 0)), (1, .int x1), (2, .ref (B + k2)), (3, .int x3)] []) {x1 : Int32} {k2 : Nat} {x3 : Int32} {s : uS} {r : uS} (hk2 : uSo k2 10) (h : fb_X11_listScripts_9 K9 x1 k2 x3 s = some r) : GU l D A B Z mX11_listScripts 6 (r, none) s 9 [(0, .ref (B + 0)), (1, .int x1), (2, .ref (B + k2)), (3, .int x3)] [] := by
  unfold fb_X11_listScripts_9 at h
  refine uu_iload_n dX11_listScripts_9 rfl (List.mem_of_getElem? (i := 3) rfl) ?_
  refine uu_aload_n dX11_listScripts_10 rfl (List.mem_of_getElem? (i := 2) rfl) ?_
  refine uu_geti (ci := 10) (N := 6) fX11_201 (by decide) hk2.is (by decide) (by decide) dX11_listScripts_11 ?_
  refine uu_icmp_ge (tgt := 72) dX11_listScripts_14 (by decide) (fun c1 => ?_) (fun c1 => ?_)
  · replace h := uu_pos c1 h
    refine uu_aload_n dX11_listScripts_72 rfl (List.mem_of_getElem? (i := 0) rfl) ?_
    refine uu_geta (ci := 11) (N := 17) fX11_15 (by decide) so_0.is (by decide) (c := 2) (by decide) dX11_listScripts_73 ?_
    refine uu_iload_n dX11_listScripts_76 rfl (List.mem_of_getElem? (i := 1) rfl) ?_
    obtain ⟨j2, e3, h⟩ := uu_ob h
    refine uu_aald (t := 24) rfl (by decide) e3 dX11_listScripts_77 ?_
    obtain ⟨g4, h⟩ := uu_grd h
    obtain ⟨cq5, cp5, cv5, cw5⟩ := uk.2.1 3 _ rfl
    refine uu_ldcwS cv5 dX11_listScripts_78 ?_
    obtain ⟨s6, e7, h⟩ := uu_ob h
    refine uu_cv (d1 := 5) (k := j2) (ci := 5) (T := TX5) (N := 3) (As := [.ref cq5]) (st := []) (st' := []) (xc_X5_line uk g4 cw5 e7) g4.is (by decide) rfl kX5_line lX11_238 sX5_line (by decide) (Nat.le_of_ble_eq_true rfl) dX11_listScripts_81 rfl ?_
    have hr := Option.some.inj h
    subst hr
    exact uu_vret rfl dX11_listScripts_84
  · replace h := uu_neg c1 h
    refine uu_aload_n dX11_listScripts_17 rfl (List.mem_of_getElem? (i := 2) rfl) ?_
    refine uu_getc (ci := 10) (N := 6) fX11_405 (by decide) hk2.is (by decide) (c := 1) (by decide) (k2 := k2 + 1) rfl dX11_listScripts_18 ?_
    refine uu_iload_n dX11_listScripts_21 rfl (List.mem_of_getElem? (i := 3) rfl) ?_
    obtain ⟨j8, e9, h⟩ := uu_ob h
    refine uu_aald (t := 27) rfl (by decide) e9 dX11_listScripts_22 ?_
    refine uu_astore dX11_listScripts_23 (by decide) rfl ?_
    refine uu_aload_n dX11_listScripts_25 rfl (List.mem_of_getElem? (i := 1) rfl) ?_
    refine uu_geta (ci := 11) (N := 17) fX11_15 (by decide) so_0.is (by decide) (c := 2) (by decide) dX11_listScripts_26 ?_
    refine uu_iload_n dX11_listScripts_29 rfl (List.mem_of_getElem? (i := 2) rfl) ?_
    obtain ⟨j10, e11, h⟩ := uu_ob h
    refine uu_aald (t := 24) rfl (by decide) e11 dX11_listScripts_30 ?_
    obtain ⟨g12, h⟩ := uu_grd h
    refine uu_aload dX11_listScripts_31 (List.mem_of_getElem? (i := 0) rfl) ?_
    obtain ⟨g13, h⟩ := uu_grd h
    obtain ⟨j14, e15, h⟩ := uu_ob h
    obtain ⟨g16, h⟩ := uu_grd h
    refine uu_getl (ci := 1) (N := 6) fX11_173 (by decide) g13 (by decide) (by decide) e15 g16 dX11_listScripts_33 ?_
    obtain ⟨s17, e18, h⟩ := uu_ob h
    refine uu_cv (d1 := 1) (k := j10) (ci := 5) (T := TX5) (N := 3) (As := [.ref (B + j14)]) (st := []) (st' := []) (xc_X5_quoted uk g12 e18) g12.is (by decide) rfl kX5_quoted lX11_408 sX5_quoted (by decide) (Nat.le_of_ble_eq_true rfl) dX11_listScripts_36 rfl ?_
    refine uu_aload_n dX11_listScripts_39 rfl (List.mem_of_getElem? (i := 1) rfl) ?_
    refine uu_geta (ci := 11) (N := 17) fX11_15 (by decide) so_0.is (by decide) (c := 2) (by decide) dX11_listScripts_40 ?_
    refine uu_iload_n dX11_listScripts_43 rfl (List.mem_of_getElem? (i := 2) rfl) ?_
    obtain ⟨j19, e20, h⟩ := uu_ob h
    refine uu_aald (t := 24) rfl (by decide) e20 dX11_listScripts_44 ?_
    obtain ⟨g21, h⟩ := uu_grd h
    refine uu_aload dX11_listScripts_45 (List.mem_of_getElem? (i := 0) rfl) ?_
    refine uu_aload_n dX11_listScripts_47 rfl (List.mem_of_getElem? (i := 3) rfl) ?_
    refine uu_getv (ci := 10) (N := 6) fX11_244 (by decide) hk2.is (by decide) (by decide) dX11_listScripts_48 ?_
    cases eo22 : s17.R k2 5 with
    | none =>
      rw [eo22] at h
      refine uu_acmp_ne (tgt := 60) (rx := (Option.map (fun z => B + z) (some j8))) (ry := (Option.map (fun z => B + z) none)) dX11_listScripts_51 (by decide) (fun c23 => ?_) (fun c23 => ?_)
      · replace h := uu_neg (uo_ninj c23) h
        obtain ⟨cq24, cp24, cv24, cw24⟩ := uk.2.1 7 _ rfl
        refine uu_ldcwS cv24 dX11_listScripts_60 ?_
        refine uu_lv [1, 2, 3, 4] (lv' := [(0, .ref (B + 0)), (1, .int x1), (2, .ref (B + k2)), (3, .int x3)]) rfl ?_
        exact xb_X11_listScripts_63 uk hK9 hk2 cw24 g21 h
      · replace h := uu_pos (uo_inj c23) h
        obtain ⟨cq25, cp25, cv25, cw25⟩ := uk.2.1 6 _ rfl
        refine uu_ldcwS cv25 dX11_listScripts_54 ?_
        refine uu_goto (tgt := 63) dX11_listScripts_57 (by decide) ?_
        refine uu_lv [1, 2, 3, 4] (lv' := [(0, .ref (B + 0)), (1, .int x1), (2, .ref (B + k2)), (3, .int x3)]) rfl ?_
        exact xb_X11_listScripts_63 uk hK9 hk2 cw25 g21 h
    | some j22 =>
      rw [eo22] at h
      refine uu_acmp_ne (tgt := 60) (rx := (Option.map (fun z => B + z) (some j8))) (ry := (Option.map (fun z => B + z) (some j22))) dX11_listScripts_51 (by decide) (fun c26 => ?_) (fun c26 => ?_)
      · replace h := uu_neg (uo_ninj c26) h
        obtain ⟨cq27, cp27, cv27, cw27⟩ := uk.2.1 7 _ rfl
        refine uu_ldcwS cv27 dX11_listScripts_60 ?_
        refine uu_lv [1, 2, 3, 4] (lv' := [(0, .ref (B + 0)), (1, .int x1), (2, .ref (B + k2)), (3, .int x3)]) rfl ?_
        exact xb_X11_listScripts_63 uk hK9 hk2 cw27 g21 h
      · replace h := uu_pos (uo_inj c26) h
        obtain ⟨cq28, cp28, cv28, cw28⟩ := uk.2.1 6 _ rfl
        refine uu_ldcwS cv28 dX11_listScripts_54 ?_
        refine uu_goto (tgt := 63) dX11_listScripts_57 (by decide) ?_
        refine uu_lv [1, 2, 3, 4] (lv' := [(0, .ref (B + 0)), (1, .int x1), (2, .ref (B + k2)), (3, .int x3)]) rfl ?_
        exact xb_X11_listScripts_63 uk hK9 hk2 cw28 g21 h
def fn_X11_listScripts_9  : Nat → Int32 → Nat → Int32 → uS → Option uS
  | 0 => fun _ _ _ _ => none
  | n + 1 => fb_X11_listScripts_9 (fn_X11_listScripts_9  n)
set_option maxRecDepth 100000 in
set_option maxHeartbeats 4000000 in
theorem xn_X11_listScripts_9 {l : Launch} {D : va_G} {A : Nat → ClassId} {B : Nat} {Z : State → Heap → Prop} {vF : Value} (uk : uK B Z vF)   : ∀ (n : Nat) (x1 : Int32) (k2 : Nat) (x3 : Int32) (hk2 : uSo k2 10) (s : uS) (r : uS), fn_X11_listScripts_9  n x1 k2 x3 s = some r → GU l D A B Z mX11_listScripts 6 (r, none) s 9 [(0, .ref (B + 0)), (1, .int x1), (2, .ref (B + k2)), (3, .int x3)] [] := by
  intro n
  induction n with
  | zero => intro x1 k2 x3 hk2 s r h
            cases h
  | succ n ih => intro x1 k2 x3 hk2 s r h
                 exact xb_X11_listScripts_9 uk ih hk2 h
def fn_X11_listScripts (x1 : Int32) (s : uS) : Option uS := (pgt 26 s 4 x1).bind fun j1 => if uSo j1 10 then (fn_X11_listScripts_9 uFu x1 j1 0 s) else none
set_option maxRecDepth 100000 in
set_option maxHeartbeats 4000000 in
theorem xc_X11_listScripts {l : Launch} {D : va_G} {A : Nat → ClassId} {B : Nat} {Z : State → Heap → Prop} {vF : Value} (uk : uK B Z vF) {x1 : Int32} {s : uS} {r : uS}  (h : fn_X11_listScripts x1 s = some r) : CU l D A B Z 6 mX11_listScripts s [.ref (B + 0), .int x1] (r, none) := by
  unfold fn_X11_listScripts at h
  refine cu_of rfl uk.1.1 (Nat.le_of_ble_eq_true rfl) ?_
  show GU _ _ _ _ _ _ _ _ _ 0 [(0, .ref (B + 0)), (1, .int x1)] []
  refine uu_aload_n dX11_listScripts_0 rfl (List.mem_of_getElem? (i := 0) rfl) ?_
  refine uu_geta (ci := 11) (N := 17) fX11_27 (by decide) so_0.is (by decide) (c := 4) (by decide) dX11_listScripts_1 ?_
  refine uu_iload_n dX11_listScripts_4 rfl (List.mem_of_getElem? (i := 1) rfl) ?_
  obtain ⟨j1, e2, h⟩ := uu_ob h
  refine uu_aald (t := 26) rfl (by decide) e2 dX11_listScripts_5 ?_
  obtain ⟨g3, h⟩ := uu_grd h
  refine uu_astore_n dX11_listScripts_6 rfl (by decide) rfl ?_
  refine uu_iconst (v := 0) dX11_listScripts_7 (by decide) ?_
  refine uu_istore_n dX11_listScripts_8 rfl (by decide) rfl ?_
  refine uu_lv [2, 3, 1, 0] (lv' := [(0, .ref (B + 0)), (1, .int x1), (2, .ref (B + j1)), (3, .int 0)]) rfl ?_
  exact xn_X11_listScripts_9 uk  _ _ _ _ g3 _ _ h
abbrev mX11_deleteScript : hM := (yX11_deleteScript, cX11_deleteScript, 4, none)
theorem dX11_deleteScript_0 : decode cX11_deleteScript 0 = .ok (.aload_n 0, 1) := by decide +kernel
theorem dX11_deleteScript_1 : decode cX11_deleteScript 1 = .ok (.getfield 27, 3) := by decide +kernel
theorem dX11_deleteScript_4 : decode cX11_deleteScript 4 = .ok (.iload_n 1, 1) := by decide +kernel
theorem dX11_deleteScript_5 : decode cX11_deleteScript 5 = .ok (.aaload, 1) := by decide +kernel
theorem dX11_deleteScript_6 : decode cX11_deleteScript 6 = .ok (.astore_n 2, 1) := by decide +kernel
theorem dX11_deleteScript_7 : decode cX11_deleteScript 7 = .ok (.aload_n 2, 1) := by decide +kernel
theorem dX11_deleteScript_8 : decode cX11_deleteScript 8 = .ok (.aload_n 0, 1) := by decide +kernel
theorem dX11_deleteScript_9 : decode cX11_deleteScript 9 = .ok (.getfield 21, 3) := by decide +kernel
theorem dX11_deleteScript_12 : decode cX11_deleteScript 12 = .ok (.iload_n 1, 1) := by decide +kernel
theorem dX11_deleteScript_13 : decode cX11_deleteScript 13 = .ok (.aaload, 1) := by decide +kernel
theorem dX11_deleteScript_14 : decode cX11_deleteScript 14 = .ok (.getfield 350, 3) := by decide +kernel
theorem dX11_deleteScript_17 : decode cX11_deleteScript 17 = .ok (.iconst 0, 1) := by decide +kernel
theorem dX11_deleteScript_18 : decode cX11_deleteScript 18 = .ok (.invokevirtual 377, 3) := by decide +kernel
theorem dX11_deleteScript_21 : decode cX11_deleteScript 21 = .ok (.astore_n 3, 1) := by decide +kernel
theorem dX11_deleteScript_22 : decode cX11_deleteScript 22 = .ok (.aload_n 3, 1) := by decide +kernel
theorem dX11_deleteScript_23 : decode cX11_deleteScript 23 = .ok (.ifnonnull 18, 3) := by decide +kernel
theorem dX11_deleteScript_26 : decode cX11_deleteScript 26 = .ok (.aload_n 0, 1) := by decide +kernel
theorem dX11_deleteScript_27 : decode cX11_deleteScript 27 = .ok (.getfield 15, 3) := by decide +kernel
theorem dX11_deleteScript_30 : decode cX11_deleteScript 30 = .ok (.iload_n 1, 1) := by decide +kernel
theorem dX11_deleteScript_31 : decode cX11_deleteScript 31 = .ok (.aaload, 1) := by decide +kernel
theorem dX11_deleteScript_32 : decode cX11_deleteScript 32 = .ok (.ldc_w 399, 3) := by decide +kernel
theorem dX11_deleteScript_35 : decode cX11_deleteScript 35 = .ok (.invokevirtual 126, 3) := by decide +kernel
theorem dX11_deleteScript_38 : decode cX11_deleteScript 38 = .ok (.goto 50, 3) := by decide +kernel
theorem dX11_deleteScript_88 : decode cX11_deleteScript 88 = .ok (.return_, 1) := by decide +kernel
theorem dX11_deleteScript_41 : decode cX11_deleteScript 41 = .ok (.aload_n 3, 1) := by decide +kernel
theorem dX11_deleteScript_42 : decode cX11_deleteScript 42 = .ok (.aload_n 2, 1) := by decide +kernel
theorem dX11_deleteScript_43 : decode cX11_deleteScript 43 = .ok (.getfield 244, 3) := by decide +kernel
theorem dX11_deleteScript_46 : decode cX11_deleteScript 46 = .ok (.if_acmp .ne 18, 3) := by decide +kernel
theorem dX11_deleteScript_64 : decode cX11_deleteScript 64 = .ok (.aload_n 0, 1) := by decide +kernel
theorem dX11_deleteScript_65 : decode cX11_deleteScript 65 = .ok (.invokevirtual 133, 3) := by decide +kernel
theorem dX11_deleteScript_68 : decode cX11_deleteScript 68 = .ok (.ifCond .eq 20, 3) := by decide +kernel
theorem dX11_deleteScript_71 : decode cX11_deleteScript 71 = .ok (.aload_n 2, 1) := by decide +kernel
theorem dX11_deleteScript_72 : decode cX11_deleteScript 72 = .ok (.aload_n 3, 1) := by decide +kernel
theorem kX10_removeScript : h_ml mX10_removeScript 1 := ⟨h_t7 131 rfl rfl, h_t1 8 rfl rfl, ⟨by decide, by decide, by decide +kernel⟩, by decide⟩
theorem lX11_416 : Cond.methodLink RX11 416 mX10_removeScript.1 ∈ lw_g := h_t7 128 rfl rfl
theorem sX10_removeScript : Cond.instanceMethod mX10_removeScript.1 ∈ lw_g ∧ Cond.selects mX10_removeScript.1.cls mX10_removeScript.1 mX10_removeScript.1 ∈ lw_g := ⟨h_t7 129 rfl rfl, h_t7 130 rfl rfl⟩
theorem dX11_deleteScript_73 : decode cX11_deleteScript 73 = .ok (.invokevirtual 416, 3) := by decide +kernel
theorem dX11_deleteScript_76 : decode cX11_deleteScript 76 = .ok (.aload_n 0, 1) := by decide +kernel
theorem dX11_deleteScript_77 : decode cX11_deleteScript 77 = .ok (.getfield 15, 3) := by decide +kernel
theorem dX11_deleteScript_80 : decode cX11_deleteScript 80 = .ok (.iload_n 1, 1) := by decide +kernel
theorem dX11_deleteScript_81 : decode cX11_deleteScript 81 = .ok (.aaload, 1) := by decide +kernel
theorem dX11_deleteScript_82 : decode cX11_deleteScript 82 = .ok (.ldc_w 375, 3) := by decide +kernel
theorem dX11_deleteScript_85 : decode cX11_deleteScript 85 = .ok (.invokevirtual 238, 3) := by decide +kernel
theorem dX11_deleteScript_49 : decode cX11_deleteScript 49 = .ok (.aload_n 0, 1) := by decide +kernel
theorem dX11_deleteScript_50 : decode cX11_deleteScript 50 = .ok (.getfield 15, 3) := by decide +kernel
theorem dX11_deleteScript_53 : decode cX11_deleteScript 53 = .ok (.iload_n 1, 1) := by decide +kernel
theorem dX11_deleteScript_54 : decode cX11_deleteScript 54 = .ok (.aaload, 1) := by decide +kernel
theorem dX11_deleteScript_55 : decode cX11_deleteScript 55 = .ok (.ldc_w 415, 3) := by decide +kernel
theorem dX11_deleteScript_58 : decode cX11_deleteScript 58 = .ok (.invokevirtual 126, 3) := by decide +kernel
theorem dX11_deleteScript_61 : decode cX11_deleteScript 61 = .ok (.goto 27, 3) := by decide +kernel
def fn_X11_deleteScript (x1 : Int32) (s : uS) : Option uS := (pgt 26 s 4 x1).bind fun j1 => if uSo j1 10 then ((pgt 25 s 3 x1).bind fun j4 => if uSo j4 8 then ((fn_X10_scriptNamed j1 (j4 + 1) 0 s).bind fun v7 => (match v7 with | none => (pgt 24 s 2 x1).bind fun j10 => if uSo j10 5 then ((fn_X5_refusal j10 kW_5 s).bind fun s14 => some s14) else none | some j9 => (match s.R j1 5 with | none => if (some j9 : Option Nat) = none then ((pgt 24 s 2 x1).bind fun j29 => if uSo j29 5 then ((fn_X5_refusal j29 kW_8 s).bind fun s33 => some s33) else none) else ((fn_X11_commit s).bind fun r18 => if r18.2 = true then ((fn_X10_removeScript j1 (some j9) r18.1).bind fun s21 => (pgt 24 s21 2 x1).bind fun j23 => if uSo j23 5 then ((fn_X5_line j23 kW_3 s21).bind fun s27 => some s27) else none) else (some r18.1)) | some j16 => if (some j9 : Option Nat) = some j16 then ((pgt 24 s 2 x1).bind fun j47 => if uSo j47 5 then ((fn_X5_refusal j47 kW_8 s).bind fun s51 => some s51) else none) else ((fn_X11_commit s).bind fun r36 => if r36.2 = true then ((fn_X10_removeScript j1 (some j9) r36.1).bind fun s39 => (pgt 24 s39 2 x1).bind fun j41 => if uSo j41 5 then ((fn_X5_line j41 kW_3 s39).bind fun s45 => some s45) else none) else (some r36.1))))) else none) else none
set_option maxRecDepth 100000 in
set_option maxHeartbeats 4000000 in
theorem xc_X11_deleteScript {l : Launch} {D : va_G} {A : Nat → ClassId} {B : Nat} {Z : State → Heap → Prop} {vF : Value} (uk : uK B Z vF) {x1 : Int32} {s : uS} {r : uS}  (h : fn_X11_deleteScript x1 s = some r) : CU l D A B Z 7 mX11_deleteScript s [.ref (B + 0), .int x1] (r, none) := by
  unfold fn_X11_deleteScript at h
  refine cu_of rfl uk.1.1 (Nat.le_of_ble_eq_true rfl) ?_
  show GU _ _ _ _ _ _ _ _ _ 0 [(0, .ref (B + 0)), (1, .int x1)] []
  refine uu_aload_n dX11_deleteScript_0 rfl (List.mem_of_getElem? (i := 0) rfl) ?_
  refine uu_geta (ci := 11) (N := 17) fX11_27 (by decide) so_0.is (by decide) (c := 4) (by decide) dX11_deleteScript_1 ?_
  refine uu_iload_n dX11_deleteScript_4 rfl (List.mem_of_getElem? (i := 1) rfl) ?_
  obtain ⟨j1, e2, h⟩ := uu_ob h
  refine uu_aald (t := 26) rfl (by decide) e2 dX11_deleteScript_5 ?_
  obtain ⟨g3, h⟩ := uu_grd h
  refine uu_astore_n dX11_deleteScript_6 rfl (by decide) rfl ?_
  refine uu_aload_n dX11_deleteScript_7 rfl (List.mem_of_getElem? (i := 0) rfl) ?_
  refine uu_aload_n dX11_deleteScript_8 rfl (List.mem_of_getElem? (i := 1) rfl) ?_
  refine uu_geta (ci := 11) (N := 17) fX11_21 (by decide) so_0.is (by decide) (c := 3) (by decide) dX11_deleteScript_9 ?_
  refine uu_iload_n dX11_deleteScript_12 rfl (List.mem_of_getElem? (i := 2) rfl) ?_
  obtain ⟨j4, e5, h⟩ := uu_ob h
  refine uu_aald (t := 25) rfl (by decide) e5 dX11_deleteScript_13 ?_
  obtain ⟨g6, h⟩ := uu_grd h
  refine uu_getc (ci := 8) (N := 8) fX11_350 (by decide) g6.is (by decide) (c := 1) (by decide) (k2 := j4 + 1) rfl dX11_deleteScript_14 ?_
  refine uu_iconst (v := 0) dX11_deleteScript_17 (by decide) ?_
  obtain ⟨v7, e8, h⟩ := uu_ob h
  refine uu_cv (d1 := 2) (k := j1) (ci := 10) (T := TX10) (N := 6) (As := [.ref (B + (j4 + 1)), .int 0]) (st := []) (st' := [va_rf (v7.map (fun x => B + x))]) (xc_X10_scriptNamed uk g3 (so_parts g6) e8) g3.is (by decide) rfl kX10_scriptNamed lX11_377 sX10_scriptNamed (by decide) (Nat.le_of_ble_eq_true rfl) dX11_deleteScript_18 rfl ?_
  cases eo9 : v7 with
  | none =>
    rw [eo9] at h
    refine uu_astore_nN dX11_deleteScript_21 rfl (by decide) rfl ?_
    refine uu_aload_nN dX11_deleteScript_22 rfl (List.mem_of_getElem? (i := 0) rfl) ?_
    refine uu_ifnonnullN dX11_deleteScript_23 ?_
    refine uu_aload_n dX11_deleteScript_26 rfl (List.mem_of_getElem? (i := 2) rfl) ?_
    refine uu_geta (ci := 11) (N := 17) fX11_15 (by decide) so_0.is (by decide) (c := 2) (by decide) dX11_deleteScript_27 ?_
    refine uu_iload_n dX11_deleteScript_30 rfl (List.mem_of_getElem? (i := 3) rfl) ?_
    obtain ⟨j10, e11, h⟩ := uu_ob h
    refine uu_aald (t := 24) rfl (by decide) e11 dX11_deleteScript_31 ?_
    obtain ⟨g12, h⟩ := uu_grd h
    obtain ⟨cq13, cp13, cv13, cw13⟩ := uk.2.1 5 _ rfl
    refine uu_ldcwS cv13 dX11_deleteScript_32 ?_
    obtain ⟨s14, e15, h⟩ := uu_ob h
    refine uu_cv (d1 := 6) (k := j10) (ci := 5) (T := TX5) (N := 3) (As := [.ref cq13]) (st := []) (st' := []) (xc_X5_refusal uk g12 cw13 e15) g12.is (by decide) rfl kX5_refusal lX11_126 sX5_refusal (by decide) (Nat.le_of_ble_eq_true rfl) dX11_deleteScript_35 rfl ?_
    refine uu_goto (tgt := 88) dX11_deleteScript_38 (by decide) ?_
    have hr := Option.some.inj h
    subst hr
    exact uu_vret rfl dX11_deleteScript_88
  | some j9 =>
    rw [eo9] at h
    refine uu_astore_n dX11_deleteScript_21 rfl (by decide) rfl ?_
    refine uu_aload_n dX11_deleteScript_22 rfl (List.mem_of_getElem? (i := 0) rfl) ?_
    refine uu_ifnonnull (tgt := 41) dX11_deleteScript_23 (by decide) ?_
    refine uu_aload_n dX11_deleteScript_41 rfl (List.mem_of_getElem? (i := 0) rfl) ?_
    refine uu_aload_n dX11_deleteScript_42 rfl (List.mem_of_getElem? (i := 1) rfl) ?_
    refine uu_getv (ci := 10) (N := 6) fX11_244 (by decide) g3.is (by decide) (by decide) dX11_deleteScript_43 ?_
    cases eo16 : s.R j1 5 with
    | none =>
      rw [eo16] at h
      refine uu_acmp_ne (tgt := 64) (rx := (Option.map (fun z => B + z) (some j9))) (ry := (Option.map (fun z => B + z) none)) dX11_deleteScript_46 (by decide) (fun c17 => ?_) (fun c17 => ?_)
      · replace h := uu_neg (uo_ninj c17) h
        refine uu_aload_n dX11_deleteScript_64 rfl (List.mem_of_getElem? (i := 2) rfl) ?_
        obtain ⟨r18, e19, h⟩ := uu_ob h
        refine uu_cv (d1 := 3) (k := 0) (ci := 11) (T := TX11) (N := 17) (As := []) (st := []) (st' := [.int (bI r18.2)]) (xc_X11_commit uk  e19) so_0.is (by decide) rfl kX11_commit lX11_133 sX11_commit (by decide) (Nat.le_of_ble_eq_true rfl) dX11_deleteScript_65 rfl ?_
        refine uu_ifb_eq (tgt := 88) dX11_deleteScript_68 (by decide) (fun c20 => ?_) (fun c20 => ?_)
        · replace h := uu_neg c20 h
          have hr := Option.some.inj h
          subst hr
          exact uu_vret rfl dX11_deleteScript_88
        · replace h := uu_pos c20 h
          refine uu_aload_n dX11_deleteScript_71 rfl (List.mem_of_getElem? (i := 1) rfl) ?_
          refine uu_aload_n dX11_deleteScript_72 rfl (List.mem_of_getElem? (i := 0) rfl) ?_
          obtain ⟨s21, e22, h⟩ := uu_ob h
          refine uu_cv (d1 := 0) (k := j1) (ci := 10) (T := TX10) (N := 6) (As := [.ref (B + j9)]) (st := []) (st' := []) (xc_X10_removeScript uk g3 e22) g3.is (by decide) rfl kX10_removeScript lX11_416 sX10_removeScript (by decide) (Nat.le_of_ble_eq_true rfl) dX11_deleteScript_73 rfl ?_
          refine uu_aload_n dX11_deleteScript_76 rfl (List.mem_of_getElem? (i := 2) rfl) ?_
          refine uu_geta (ci := 11) (N := 17) fX11_15 (by decide) so_0.is (by decide) (c := 2) (by decide) dX11_deleteScript_77 ?_
          refine uu_iload_n dX11_deleteScript_80 rfl (List.mem_of_getElem? (i := 3) rfl) ?_
          obtain ⟨j23, e24, h⟩ := uu_ob h
          refine uu_aald (t := 24) rfl (by decide) e24 dX11_deleteScript_81 ?_
          obtain ⟨g25, h⟩ := uu_grd h
          obtain ⟨cq26, cp26, cv26, cw26⟩ := uk.2.1 3 _ rfl
          refine uu_ldcwS cv26 dX11_deleteScript_82 ?_
          obtain ⟨s27, e28, h⟩ := uu_ob h
          refine uu_cv (d1 := 5) (k := j23) (ci := 5) (T := TX5) (N := 3) (As := [.ref cq26]) (st := []) (st' := []) (xc_X5_line uk g25 cw26 e28) g25.is (by decide) rfl kX5_line lX11_238 sX5_line (by decide) (Nat.le_of_ble_eq_true rfl) dX11_deleteScript_85 rfl ?_
          have hr := Option.some.inj h
          subst hr
          exact uu_vret rfl dX11_deleteScript_88
      · replace h := uu_pos (uo_inj c17) h
        refine uu_aload_n dX11_deleteScript_49 rfl (List.mem_of_getElem? (i := 2) rfl) ?_
        refine uu_geta (ci := 11) (N := 17) fX11_15 (by decide) so_0.is (by decide) (c := 2) (by decide) dX11_deleteScript_50 ?_
        refine uu_iload_n dX11_deleteScript_53 rfl (List.mem_of_getElem? (i := 3) rfl) ?_
        obtain ⟨j29, e30, h⟩ := uu_ob h
        refine uu_aald (t := 24) rfl (by decide) e30 dX11_deleteScript_54 ?_
        obtain ⟨g31, h⟩ := uu_grd h
        obtain ⟨cq32, cp32, cv32, cw32⟩ := uk.2.1 8 _ rfl
        refine uu_ldcwS cv32 dX11_deleteScript_55 ?_
        obtain ⟨s33, e34, h⟩ := uu_ob h
        refine uu_cv (d1 := 6) (k := j29) (ci := 5) (T := TX5) (N := 3) (As := [.ref cq32]) (st := []) (st' := []) (xc_X5_refusal uk g31 cw32 e34) g31.is (by decide) rfl kX5_refusal lX11_126 sX5_refusal (by decide) (Nat.le_of_ble_eq_true rfl) dX11_deleteScript_58 rfl ?_
        refine uu_goto (tgt := 88) dX11_deleteScript_61 (by decide) ?_
        have hr := Option.some.inj h
        subst hr
        exact uu_vret rfl dX11_deleteScript_88
    | some j16 =>
      rw [eo16] at h
      refine uu_acmp_ne (tgt := 64) (rx := (Option.map (fun z => B + z) (some j9))) (ry := (Option.map (fun z => B + z) (some j16))) dX11_deleteScript_46 (by decide) (fun c35 => ?_) (fun c35 => ?_)
      · replace h := uu_neg (uo_ninj c35) h
        refine uu_aload_n dX11_deleteScript_64 rfl (List.mem_of_getElem? (i := 2) rfl) ?_
        obtain ⟨r36, e37, h⟩ := uu_ob h
        refine uu_cv (d1 := 3) (k := 0) (ci := 11) (T := TX11) (N := 17) (As := []) (st := []) (st' := [.int (bI r36.2)]) (xc_X11_commit uk  e37) so_0.is (by decide) rfl kX11_commit lX11_133 sX11_commit (by decide) (Nat.le_of_ble_eq_true rfl) dX11_deleteScript_65 rfl ?_
        refine uu_ifb_eq (tgt := 88) dX11_deleteScript_68 (by decide) (fun c38 => ?_) (fun c38 => ?_)
        · replace h := uu_neg c38 h
          have hr := Option.some.inj h
          subst hr
          exact uu_vret rfl dX11_deleteScript_88
        · replace h := uu_pos c38 h
          refine uu_aload_n dX11_deleteScript_71 rfl (List.mem_of_getElem? (i := 1) rfl) ?_
          refine uu_aload_n dX11_deleteScript_72 rfl (List.mem_of_getElem? (i := 0) rfl) ?_
          obtain ⟨s39, e40, h⟩ := uu_ob h
          refine uu_cv (d1 := 0) (k := j1) (ci := 10) (T := TX10) (N := 6) (As := [.ref (B + j9)]) (st := []) (st' := []) (xc_X10_removeScript uk g3 e40) g3.is (by decide) rfl kX10_removeScript lX11_416 sX10_removeScript (by decide) (Nat.le_of_ble_eq_true rfl) dX11_deleteScript_73 rfl ?_
          refine uu_aload_n dX11_deleteScript_76 rfl (List.mem_of_getElem? (i := 2) rfl) ?_
          refine uu_geta (ci := 11) (N := 17) fX11_15 (by decide) so_0.is (by decide) (c := 2) (by decide) dX11_deleteScript_77 ?_
          refine uu_iload_n dX11_deleteScript_80 rfl (List.mem_of_getElem? (i := 3) rfl) ?_
          obtain ⟨j41, e42, h⟩ := uu_ob h
          refine uu_aald (t := 24) rfl (by decide) e42 dX11_deleteScript_81 ?_
          obtain ⟨g43, h⟩ := uu_grd h
          obtain ⟨cq44, cp44, cv44, cw44⟩ := uk.2.1 3 _ rfl
          refine uu_ldcwS cv44 dX11_deleteScript_82 ?_
          obtain ⟨s45, e46, h⟩ := uu_ob h
          refine uu_cv (d1 := 5) (k := j41) (ci := 5) (T := TX5) (N := 3) (As := [.ref cq44]) (st := []) (st' := []) (xc_X5_line uk g43 cw44 e46) g43.is (by decide) rfl kX5_line lX11_238 sX5_line (by decide) (Nat.le_of_ble_eq_true rfl) dX11_deleteScript_85 rfl ?_
          have hr := Option.some.inj h
          subst hr
          exact uu_vret rfl dX11_deleteScript_88
      · replace h := uu_pos (uo_inj c35) h
        refine uu_aload_n dX11_deleteScript_49 rfl (List.mem_of_getElem? (i := 2) rfl) ?_
        refine uu_geta (ci := 11) (N := 17) fX11_15 (by decide) so_0.is (by decide) (c := 2) (by decide) dX11_deleteScript_50 ?_
        refine uu_iload_n dX11_deleteScript_53 rfl (List.mem_of_getElem? (i := 3) rfl) ?_
        obtain ⟨j47, e48, h⟩ := uu_ob h
        refine uu_aald (t := 24) rfl (by decide) e48 dX11_deleteScript_54 ?_
        obtain ⟨g49, h⟩ := uu_grd h
        obtain ⟨cq50, cp50, cv50, cw50⟩ := uk.2.1 8 _ rfl
        refine uu_ldcwS cv50 dX11_deleteScript_55 ?_
        obtain ⟨s51, e52, h⟩ := uu_ob h
        refine uu_cv (d1 := 6) (k := j47) (ci := 5) (T := TX5) (N := 3) (As := [.ref cq50]) (st := []) (st' := []) (xc_X5_refusal uk g49 cw50 e52) g49.is (by decide) rfl kX5_refusal lX11_126 sX5_refusal (by decide) (Nat.le_of_ble_eq_true rfl) dX11_deleteScript_58 rfl ?_
        refine uu_goto (tgt := 88) dX11_deleteScript_61 (by decide) ?_
        have hr := Option.some.inj h
        subst hr
        exact uu_vret rfl dX11_deleteScript_88
theorem dX12_fresh_0 : decode cX12_fresh 0 = .ok (.aload_n 0, 1) := by decide +kernel
theorem dX12_fresh_1 : decode cX12_fresh 1 = .ok (.getfield 1252, 3) := by decide +kernel
theorem dX12_fresh_4 : decode cX12_fresh 4 = .ok (.iload_n 1, 1) := by decide +kernel
theorem dX12_fresh_5 : decode cX12_fresh 5 = .ok (.iconst 0, 1) := by decide +kernel
theorem dX12_fresh_6 : decode cX12_fresh 6 = .ok (.iastore, 1) := by decide +kernel
theorem dX12_fresh_7 : decode cX12_fresh 7 = .ok (.aload_n 0, 1) := by decide +kernel
theorem dX12_fresh_8 : decode cX12_fresh 8 = .ok (.getfield 1216, 3) := by decide +kernel
theorem dX12_fresh_11 : decode cX12_fresh 11 = .ok (.iload_n 1, 1) := by decide +kernel
theorem dX12_fresh_12 : decode cX12_fresh 12 = .ok (.iconst 0, 1) := by decide +kernel
theorem dX12_fresh_13 : decode cX12_fresh 13 = .ok (.iastore, 1) := by decide +kernel
theorem dX12_fresh_14 : decode cX12_fresh 14 = .ok (.aload_n 0, 1) := by decide +kernel
theorem dX12_fresh_15 : decode cX12_fresh 15 = .ok (.getfield 1210, 3) := by decide +kernel
theorem dX12_fresh_18 : decode cX12_fresh 18 = .ok (.iload_n 1, 1) := by decide +kernel
theorem dX12_fresh_19 : decode cX12_fresh 19 = .ok (.iconst 0, 1) := by decide +kernel
theorem dX12_fresh_20 : decode cX12_fresh 20 = .ok (.iastore, 1) := by decide +kernel
theorem dX12_fresh_21 : decode cX12_fresh 21 = .ok (.aload_n 0, 1) := by decide +kernel
theorem dX12_fresh_22 : decode cX12_fresh 22 = .ok (.getfield 1249, 3) := by decide +kernel
theorem dX12_fresh_25 : decode cX12_fresh 25 = .ok (.iload_n 1, 1) := by decide +kernel
theorem dX12_fresh_26 : decode cX12_fresh 26 = .ok (.iconst 0, 1) := by decide +kernel
theorem dX12_fresh_27 : decode cX12_fresh 27 = .ok (.iastore, 1) := by decide +kernel
theorem dX12_fresh_28 : decode cX12_fresh 28 = .ok (.return_, 1) := by decide +kernel
def fn_X12_fresh (x1 : Int32) (s : uS) : Option uS := (iput 20 s 1156 x1 0).bind fun s1 => (iput 20 s1 1157 x1 0).bind fun s3 => (iput 20 s3 1160 x1 0).bind fun s5 => (iput 20 s5 1166 x1 0).bind fun s7 => some s7
set_option maxRecDepth 100000 in
set_option maxHeartbeats 4000000 in
theorem xc_X12_fresh {l : Launch} {D : va_G} {A : Nat → ClassId} {B : Nat} {Z : State → Heap → Prop} {vF : Value} (uk : uK B Z vF) {x1 : Int32} {s : uS} {r : uS}  (h : fn_X12_fresh x1 s = some r) : CU l D A B Z 0 mX12_fresh s [.ref (B + 1079), .int x1] (r, none) := by
  unfold fn_X12_fresh at h
  refine cu_of rfl uk.1.1 (Nat.le_of_ble_eq_true rfl) ?_
  show GU _ _ _ _ _ _ _ _ _ 0 [(0, .ref (B + 1079)), (1, .int x1)] []
  refine uu_aload_n dX12_fresh_0 rfl (List.mem_of_getElem? (i := 0) rfl) ?_
  refine uu_geta (ci := 12) (N := 153) fX12_1252 (by decide) so_1079.is (by decide) (c := 1156) (by decide) dX12_fresh_1 ?_
  refine uu_iload_n dX12_fresh_4 rfl (List.mem_of_getElem? (i := 1) rfl) ?_
  refine uu_iconst (v := 0) dX12_fresh_5 (by decide) ?_
  obtain ⟨s1, e2, h⟩ := uu_ob h
  refine uu_iast e2 dX12_fresh_6 ?_
  refine uu_aload_n dX12_fresh_7 rfl (List.mem_of_getElem? (i := 0) rfl) ?_
  refine uu_geta (ci := 12) (N := 153) fX12_1216 (by decide) so_1079.is (by decide) (c := 1157) (by decide) dX12_fresh_8 ?_
  refine uu_iload_n dX12_fresh_11 rfl (List.mem_of_getElem? (i := 1) rfl) ?_
  refine uu_iconst (v := 0) dX12_fresh_12 (by decide) ?_
  obtain ⟨s3, e4, h⟩ := uu_ob h
  refine uu_iast e4 dX12_fresh_13 ?_
  refine uu_aload_n dX12_fresh_14 rfl (List.mem_of_getElem? (i := 0) rfl) ?_
  refine uu_geta (ci := 12) (N := 153) fX12_1210 (by decide) so_1079.is (by decide) (c := 1160) (by decide) dX12_fresh_15 ?_
  refine uu_iload_n dX12_fresh_18 rfl (List.mem_of_getElem? (i := 1) rfl) ?_
  refine uu_iconst (v := 0) dX12_fresh_19 (by decide) ?_
  obtain ⟨s5, e6, h⟩ := uu_ob h
  refine uu_iast e6 dX12_fresh_20 ?_
  refine uu_aload_n dX12_fresh_21 rfl (List.mem_of_getElem? (i := 0) rfl) ?_
  refine uu_geta (ci := 12) (N := 153) fX12_1249 (by decide) so_1079.is (by decide) (c := 1166) (by decide) dX12_fresh_22 ?_
  refine uu_iload_n dX12_fresh_25 rfl (List.mem_of_getElem? (i := 1) rfl) ?_
  refine uu_iconst (v := 0) dX12_fresh_26 (by decide) ?_
  obtain ⟨s7, e8, h⟩ := uu_ob h
  refine uu_iast e8 dX12_fresh_27 ?_
  have hr := Option.some.inj h
  subst hr
  exact uu_vret rfl dX12_fresh_28
def fb_X12_commit_36 (K36 : Int32 → uS → Option (uS × Bool)) (x1 : Int32) (s : uS) : Option (uS × Bool) := if (4 : Int32) ≤ x1 then (some (s, false)) else ((fn_X12_fresh x1 s).bind fun s2 => K36 (x1 + 1) s2)
set_option maxRecDepth 100000 in
set_option maxHeartbeats 4000000 in
theorem xb_X12_commit_36 {l : Launch} {D : va_G} {A : Nat → ClassId} {B : Nat} {Z : State → Heap → Prop} {vF : Value} (uk : uK B Z vF) {K36 : Int32 → uS → Option (uS × Bool)} (hK36 : ∀ (x1 : Int32)  (s : uS) (r : (uS × Bool)), K36 x1 s = some r → GU l D A B Z mX12_commit 1 (r.1, some (.int (bI r.2))) s 36 [(0, .ref (B + 1079)), (1, .int x1)] []) {x1 : Int32} {s : uS} {r : (uS × Bool)}  (h : fb_X12_commit_36 K36 x1 s = some r) : GU l D A B Z mX12_commit 1 (r.1, some (.int (bI r.2))) s 36 [(0, .ref (B + 1079)), (1, .int x1)] [] := by
  unfold fb_X12_commit_36 at h
  refine uu_iload_n dX12_commit_36 rfl (List.mem_of_getElem? (i := 1) rfl) ?_
  refine uu_iconst (v := 4) dX12_commit_37 (by decide) ?_
  refine uu_icmp_ge (tgt := 52) dX12_commit_38 (by decide) (fun c1 => ?_) (fun c1 => ?_)
  · replace h := uu_pos c1 h
    refine uu_iconst (v := 0) dX12_commit_52 (by decide) ?_
    have hr := Option.some.inj h
    subst hr
    exact uu_zret (x := bI false) rfl (bI_z _) dX12_commit_53
  · replace h := uu_neg c1 h
    refine uu_aload_n dX12_commit_41 rfl (List.mem_of_getElem? (i := 0) rfl) ?_
    refine uu_iload_n dX12_commit_42 rfl (List.mem_of_getElem? (i := 1) rfl) ?_
    obtain ⟨s2, e3, h⟩ := uu_ob h
    refine uu_cv (d1 := 0) (k := 1079) (ci := 12) (T := TX12) (N := 153) (As := [.int x1]) (st := []) (st' := []) (xc_X12_fresh uk  e3) so_1079.is (by decide) rfl kX12_fresh lX12_14 sX12_fresh (by decide) (Nat.le_of_ble_eq_true rfl) dX12_commit_43 rfl ?_
    refine uu_iinc (v := x1 + 1) dX12_commit_46 (k := 1) rfl rfl (by decide) rfl ?_
    refine uu_goto (tgt := 36) dX12_commit_49 (by decide) ?_
    refine uu_lv [1, 0] (lv' := [(0, .ref (B + 1079)), (1, .int (x1 + 1))]) rfl ?_
    exact hK36 (x1 + 1) _ _ h
def fn_X12_commit_36  : Nat → Int32 → uS → Option (uS × Bool)
  | 0 => fun _ _ => none
  | n + 1 => fb_X12_commit_36 (fn_X12_commit_36  n)
set_option maxRecDepth 100000 in
set_option maxHeartbeats 4000000 in
theorem xn_X12_commit_36 {l : Launch} {D : va_G} {A : Nat → ClassId} {B : Nat} {Z : State → Heap → Prop} {vF : Value} (uk : uK B Z vF)   : ∀ (n : Nat) (x1 : Int32)  (s : uS) (r : (uS × Bool)), fn_X12_commit_36  n x1 s = some r → GU l D A B Z mX12_commit 1 (r.1, some (.int (bI r.2))) s 36 [(0, .ref (B + 1079)), (1, .int x1)] [] := by
  intro n
  induction n with
  | zero => intro x1 s r h
            cases h
  | succ n ih => intro x1 s r h
                 exact xb_X12_commit_36 uk ih  h
def fb_X12_commit_54   (s : uS) : Option (uS × Bool) := some (wI s 1079 2 ((s.I 1079 2) + 1), true)
set_option maxRecDepth 100000 in
set_option maxHeartbeats 4000000 in
theorem xb_X12_commit_54 {l : Launch} {D : va_G} {A : Nat → ClassId} {B : Nat} {Z : State → Heap → Prop} {vF : Value} (uk : uK B Z vF)    {s : uS} {r : (uS × Bool)}  (h : fb_X12_commit_54   s = some r) : GU l D A B Z mX12_commit 1 (r.1, some (.int (bI r.2))) s 54 [(0, .ref (B + 1079))] [] := by
  unfold fb_X12_commit_54 at h
  refine uu_aload_n dX12_commit_54 rfl (List.mem_of_getElem? (i := 0) rfl) ?_
  refine uu_aload_n dX12_commit_55 rfl (List.mem_of_getElem? (i := 0) rfl) ?_
  refine uu_geti (ci := 12) (N := 153) fX12_18 (by decide) so_1079.is (by decide) (by decide) dX12_commit_56 ?_
  refine uu_iconst (v := 1) dX12_commit_59 (by decide) ?_
  refine uu_iadd dX12_commit_60 ?_
  refine uu_puti (ft := .int) (ci := 12) (N := 153) fX12_18 ptX12 (Or.inl rfl) (by decide) so_1079.is (by decide) (by decide) (by decide +kernel) rfl rfl dX12_commit_61 ?_
  refine uu_iconst (v := 1) dX12_commit_64 (by decide) ?_
  have hr := Option.some.inj h
  subst hr
  exact uu_zret (x := bI true) rfl (bI_z _) dX12_commit_65
def fn_X12_commit  (s : uS) : Option (uS × Bool) := if (s.I 1079 3) ≤ 0 then (fb_X12_commit_54 s) else (if ((wI s 1079 3 ((s.I 1079 3) - 1)).I 1079 3) = 0 then (fn_X12_commit_36 uFu 0 (wI (wI (wI s 1079 3 ((s.I 1079 3) - 1)) 1079 0 0) 1079 113 0)) else (fb_X12_commit_54 (wI s 1079 3 ((s.I 1079 3) - 1))))
set_option maxRecDepth 100000 in
set_option maxHeartbeats 4000000 in
theorem xc_X12_commit {l : Launch} {D : va_G} {A : Nat → ClassId} {B : Nat} {Z : State → Heap → Prop} {vF : Value} (uk : uK B Z vF)  {s : uS} {r : (uS × Bool)}  (h : fn_X12_commit  s = some r) : CU l D A B Z 1 mX12_commit s [.ref (B + 1079)] (r.1, some (.int (bI r.2))) := by
  unfold fn_X12_commit at h
  refine cu_of rfl uk.1.1 (Nat.le_of_ble_eq_true rfl) ?_
  show GU _ _ _ _ _ _ _ _ _ 0 [(0, .ref (B + 1079))] []
  refine uu_aload_n dX12_commit_0 rfl (List.mem_of_getElem? (i := 0) rfl) ?_
  refine uu_geti (ci := 12) (N := 153) fX12_1 (by decide) so_1079.is (by decide) (by decide) dX12_commit_1 ?_
  refine uu_if_le (tgt := 54) dX12_commit_4 (by decide) (fun c1 => ?_) (fun c1 => ?_)
  · replace h := uu_pos c1 h
    exact xb_X12_commit_54 uk  h
  · replace h := uu_neg c1 h
    refine uu_aload_n dX12_commit_7 rfl (List.mem_of_getElem? (i := 0) rfl) ?_
    refine uu_aload_n dX12_commit_8 rfl (List.mem_of_getElem? (i := 0) rfl) ?_
    refine uu_geti (ci := 12) (N := 153) fX12_1 (by decide) so_1079.is (by decide) (by decide) dX12_commit_9 ?_
    refine uu_iconst (v := 1) dX12_commit_12 (by decide) ?_
    refine uu_isub dX12_commit_13 ?_
    refine uu_puti (ft := .int) (ci := 12) (N := 153) fX12_1 ptX12 (Or.inl rfl) (by decide) so_1079.is (by decide) (by decide) (by decide +kernel) rfl rfl dX12_commit_14 ?_
    refine uu_aload_n dX12_commit_17 rfl (List.mem_of_getElem? (i := 0) rfl) ?_
    refine uu_geti (ci := 12) (N := 153) fX12_1 (by decide) so_1079.is (by decide) (by decide) dX12_commit_18 ?_
    refine uu_if_ne (tgt := 54) dX12_commit_21 (by decide) (fun c2 => ?_) (fun c2 => ?_)
    · replace h := uu_neg c2 h
      exact xb_X12_commit_54 uk  h
    · replace h := uu_pos c2 h
      refine uu_aload_n dX12_commit_24 rfl (List.mem_of_getElem? (i := 0) rfl) ?_
      refine uu_iconst (v := 0) dX12_commit_25 (by decide) ?_
      refine uu_puti (ft := .boolean) (ci := 12) (N := 153) fX12_7 ptX12 (Or.inl rfl) (by decide) so_1079.is (by decide) (by decide) (by decide +kernel) rfl rfl dX12_commit_26 ?_
      refine uu_aload_n dX12_commit_29 rfl (List.mem_of_getElem? (i := 0) rfl) ?_
      refine uu_iconst (v := 0) dX12_commit_30 (by decide) ?_
      refine uu_puti (ft := .boolean) (ci := 12) (N := 153) fX12_11 ptX12 (Or.inl rfl) (by decide) so_1079.is (by decide) (by decide) (by decide +kernel) rfl rfl dX12_commit_31 ?_
      refine uu_iconst (v := 0) dX12_commit_34 (by decide) ?_
      refine uu_istore_n dX12_commit_35 rfl (by decide) rfl ?_
      refine uu_lv [1, 0] (lv' := [(0, .ref (B + 1079)), (1, .int 0)]) rfl ?_
      exact xn_X12_commit_36 uk  _ _ _ _ h
def fb_X12_lay_2 (K2 : Int32 → Int32 → uS → Option uS) (x1 : Int32) (x2 : Int32) (s : uS) : Option uS := if (4 : Int32) ≤ x2 then (some (wI s 1079 5 ((s.I 1079 5) + 4))) else ((iput 20 s 1080 ((s.I 1079 5) + x2) ((x1 >>> (((24 : Int32) - ((8 : Int32) * x2)) &&& 31)) &&& 255)).bind fun s2 => K2 x1 (x2 + 1) s2)
set_option maxRecDepth 100000 in
set_option maxHeartbeats 4000000 in
theorem xb_X12_lay_2 {l : Launch} {D : va_G} {A : Nat → ClassId} {B : Nat} {Z : State → Heap → Prop} {vF : Value} (uk : uK B Z vF) {K2 : Int32 → Int32 → uS → Option uS} (hK2 : ∀ (x1 : Int32) (x2 : Int32)  (s : uS) (r : uS), K2 x1 x2 s = some r → GU l D A B Z mX12_lay 0 (r, none) s 2 [(0, .ref (B + 1079)), (1, .int x1), (2, .int x2)] []) {x1 : Int32} {x2 : Int32} {s : uS} {r : uS}  (h : fb_X12_lay_2 K2 x1 x2 s = some r) : GU l D A B Z mX12_lay 0 (r, none) s 2 [(0, .ref (B + 1079)), (1, .int x1), (2, .int x2)] [] := by
  unfold fb_X12_lay_2 at h
  refine uu_iload_n dX12_lay_2 rfl (List.mem_of_getElem? (i := 2) rfl) ?_
  refine uu_iconst (v := 4) dX12_lay_3 (by decide) ?_
  refine uu_icmp_ge (tgt := 37) dX12_lay_4 (by decide) (fun c1 => ?_) (fun c1 => ?_)
  · replace h := uu_pos c1 h
    refine uu_aload_n dX12_lay_37 rfl (List.mem_of_getElem? (i := 0) rfl) ?_
    refine uu_aload_n dX12_lay_38 rfl (List.mem_of_getElem? (i := 0) rfl) ?_
    refine uu_geti (ci := 12) (N := 153) fX12_25 (by decide) so_1079.is (by decide) (by decide) dX12_lay_39 ?_
    refine uu_iconst (v := 4) dX12_lay_42 (by decide) ?_
    refine uu_iadd dX12_lay_43 ?_
    refine uu_puti (ft := .int) (ci := 12) (N := 153) fX12_25 ptX12 (Or.inl rfl) (by decide) so_1079.is (by decide) (by decide) (by decide +kernel) rfl rfl dX12_lay_44 ?_
    have hr := Option.some.inj h
    subst hr
    exact uu_vret rfl dX12_lay_47
  · replace h := uu_neg c1 h
    refine uu_aload_n dX12_lay_7 rfl (List.mem_of_getElem? (i := 0) rfl) ?_
    refine uu_geta (ci := 12) (N := 153) fX12_21 (by decide) so_1079.is (by decide) (c := 1080) (by decide) dX12_lay_8 ?_
    refine uu_aload_n dX12_lay_11 rfl (List.mem_of_getElem? (i := 0) rfl) ?_
    refine uu_geti (ci := 12) (N := 153) fX12_25 (by decide) so_1079.is (by decide) (by decide) dX12_lay_12 ?_
    refine uu_iload_n dX12_lay_15 rfl (List.mem_of_getElem? (i := 2) rfl) ?_
    refine uu_iadd dX12_lay_16 ?_
    refine uu_iload_n dX12_lay_17 rfl (List.mem_of_getElem? (i := 1) rfl) ?_
    refine uu_bipush (v := 24) dX12_lay_18 (by decide) ?_
    refine uu_bipush (v := 8) dX12_lay_20 (by decide) ?_
    refine uu_iload_n dX12_lay_22 rfl (List.mem_of_getElem? (i := 2) rfl) ?_
    refine uu_imul dX12_lay_23 ?_
    refine uu_isub dX12_lay_24 ?_
    refine uu_ishr dX12_lay_25 ?_
    refine uu_sipush (v := 255) dX12_lay_26 (by decide) ?_
    refine uu_iand dX12_lay_29 ?_
    obtain ⟨s2, e3, h⟩ := uu_ob h
    refine uu_iast e3 dX12_lay_30 ?_
    refine uu_iinc (v := x2 + 1) dX12_lay_31 (k := 2) rfl rfl (by decide) rfl ?_
    refine uu_goto (tgt := 2) dX12_lay_34 (by decide) ?_
    refine uu_lv [1, 2, 0] (lv' := [(0, .ref (B + 1079)), (1, .int x1), (2, .int (x2 + 1))]) rfl ?_
    exact hK2 x1 (x2 + 1) _ _ h
def fn_X12_lay_2  : Nat → Int32 → Int32 → uS → Option uS
  | 0 => fun _ _ _ => none
  | n + 1 => fb_X12_lay_2 (fn_X12_lay_2  n)
set_option maxRecDepth 100000 in
set_option maxHeartbeats 4000000 in
theorem xn_X12_lay_2 {l : Launch} {D : va_G} {A : Nat → ClassId} {B : Nat} {Z : State → Heap → Prop} {vF : Value} (uk : uK B Z vF)   : ∀ (n : Nat) (x1 : Int32) (x2 : Int32)  (s : uS) (r : uS), fn_X12_lay_2  n x1 x2 s = some r → GU l D A B Z mX12_lay 0 (r, none) s 2 [(0, .ref (B + 1079)), (1, .int x1), (2, .int x2)] [] := by
  intro n
  induction n with
  | zero => intro x1 x2 s r h
            cases h
  | succ n ih => intro x1 x2 s r h
                 exact xb_X12_lay_2 uk ih  h
def fn_X12_lay (x1 : Int32) (s : uS) : Option uS := fn_X12_lay_2 uFu x1 0 s
set_option maxRecDepth 100000 in
set_option maxHeartbeats 4000000 in
theorem xc_X12_lay {l : Launch} {D : va_G} {A : Nat → ClassId} {B : Nat} {Z : State → Heap → Prop} {vF : Value} (uk : uK B Z vF) {x1 : Int32} {s : uS} {r : uS}  (h : fn_X12_lay x1 s = some r) : CU l D A B Z 0 mX12_lay s [.ref (B + 1079), .int x1] (r, none) := by
  unfold fn_X12_lay at h
  refine cu_of rfl uk.1.1 (Nat.le_of_ble_eq_true rfl) ?_
  show GU _ _ _ _ _ _ _ _ _ 0 [(0, .ref (B + 1079)), (1, .int x1)] []
  refine uu_iconst (v := 0) dX12_lay_0 (by decide) ?_
  refine uu_istore_n dX12_lay_1 rfl (by decide) rfl ?_
  refine uu_lv [1, 2, 0] (lv' := [(0, .ref (B + 1079)), (1, .int x1), (2, .int 0)]) rfl ?_
  exact xn_X12_lay_2 uk  _ _ _ _ _ h
def fn_X12_feed (x1 : Int32) (x2 : Int32) (x3 : Int32) (x4 : Int32) (x5 : Int32) (s : uS) : Option (uS × Bool) := if (s.I 1079 0) = 0 then (some (s, false)) else (if ((s.I 1079 5) + 20) ≤ 6000 then ((fn_X12_lay x1 s).bind fun s3 => (fn_X12_lay x2 s3).bind fun s5 => (fn_X12_lay x3 s5).bind fun s7 => (fn_X12_lay x4 s7).bind fun s9 => (fn_X12_lay x5 s9).bind fun s11 => some (s11, true)) else (some (s, false)))
set_option maxRecDepth 100000 in
set_option maxHeartbeats 4000000 in
theorem xc_X12_feed {l : Launch} {D : va_G} {A : Nat → ClassId} {B : Nat} {Z : State → Heap → Prop} {vF : Value} (uk : uK B Z vF) {x1 : Int32} {x2 : Int32} {x3 : Int32} {x4 : Int32} {x5 : Int32} {s : uS} {r : (uS × Bool)}  (h : fn_X12_feed x1 x2 x3 x4 x5 s = some r) : CU l D A B Z 1 mX12_feed s [.ref (B + 1079), .int x1, .int x2, .int x3, .int x4, .int x5] (r.1, some (.int (bI r.2))) := by
  unfold fn_X12_feed at h
  refine cu_of rfl uk.1.1 (Nat.le_of_ble_eq_true rfl) ?_
  show GU _ _ _ _ _ _ _ _ _ 0 [(0, .ref (B + 1079)), (1, .int x1), (2, .int x2), (3, .int x3), (4, .int x4), (5, .int x5)] []
  refine uu_aload_n dX12_feed_0 rfl (List.mem_of_getElem? (i := 0) rfl) ?_
  refine uu_geti (ci := 12) (N := 153) fX12_7 (by decide) so_1079.is (by decide) (by decide) dX12_feed_1 ?_
  refine uu_if_eq (tgt := 20) dX12_feed_4 (by decide) (fun c1 => ?_) (fun c1 => ?_)
  · replace h := uu_pos c1 h
    refine uu_iconst (v := 0) dX12_feed_20 (by decide) ?_
    have hr := Option.some.inj h
    subst hr
    exact uu_zret (x := bI false) rfl (bI_z _) dX12_feed_21
  · replace h := uu_neg c1 h
    refine uu_aload_n dX12_feed_7 rfl (List.mem_of_getElem? (i := 0) rfl) ?_
    refine uu_geti (ci := 12) (N := 153) fX12_25 (by decide) so_1079.is (by decide) (by decide) dX12_feed_8 ?_
    refine uu_bipush (v := 20) dX12_feed_11 (by decide) ?_
    refine uu_iadd dX12_feed_13 ?_
    refine uu_sipush (v := 6000) dX12_feed_14 (by decide) ?_
    refine uu_icmp_le (tgt := 22) dX12_feed_17 (by decide) (fun c2 => ?_) (fun c2 => ?_)
    · replace h := uu_pos c2 h
      refine uu_aload_n dX12_feed_22 rfl (List.mem_of_getElem? (i := 0) rfl) ?_
      refine uu_iload_n dX12_feed_23 rfl (List.mem_of_getElem? (i := 1) rfl) ?_
      obtain ⟨s3, e4, h⟩ := uu_ob h
      refine uu_cv (d1 := 0) (k := 1079) (ci := 12) (T := TX12) (N := 153) (As := [.int x1]) (st := []) (st' := []) (xc_X12_lay uk  e4) so_1079.is (by decide) rfl kX12_lay lX12_28 sX12_lay (by decide) (Nat.le_of_ble_eq_true rfl) dX12_feed_24 rfl ?_
      refine uu_aload_n dX12_feed_27 rfl (List.mem_of_getElem? (i := 0) rfl) ?_
      refine uu_iload_n dX12_feed_28 rfl (List.mem_of_getElem? (i := 2) rfl) ?_
      obtain ⟨s5, e6, h⟩ := uu_ob h
      refine uu_cv (d1 := 0) (k := 1079) (ci := 12) (T := TX12) (N := 153) (As := [.int x2]) (st := []) (st' := []) (xc_X12_lay uk  e6) so_1079.is (by decide) rfl kX12_lay lX12_28 sX12_lay (by decide) (Nat.le_of_ble_eq_true rfl) dX12_feed_29 rfl ?_
      refine uu_aload_n dX12_feed_32 rfl (List.mem_of_getElem? (i := 0) rfl) ?_
      refine uu_iload_n dX12_feed_33 rfl (List.mem_of_getElem? (i := 3) rfl) ?_
      obtain ⟨s7, e8, h⟩ := uu_ob h
      refine uu_cv (d1 := 0) (k := 1079) (ci := 12) (T := TX12) (N := 153) (As := [.int x3]) (st := []) (st' := []) (xc_X12_lay uk  e8) so_1079.is (by decide) rfl kX12_lay lX12_28 sX12_lay (by decide) (Nat.le_of_ble_eq_true rfl) dX12_feed_34 rfl ?_
      refine uu_aload_n dX12_feed_37 rfl (List.mem_of_getElem? (i := 0) rfl) ?_
      refine uu_iload dX12_feed_38 (List.mem_of_getElem? (i := 4) rfl) ?_
      obtain ⟨s9, e10, h⟩ := uu_ob h
      refine uu_cv (d1 := 0) (k := 1079) (ci := 12) (T := TX12) (N := 153) (As := [.int x4]) (st := []) (st' := []) (xc_X12_lay uk  e10) so_1079.is (by decide) rfl kX12_lay lX12_28 sX12_lay (by decide) (Nat.le_of_ble_eq_true rfl) dX12_feed_40 rfl ?_
      refine uu_aload_n dX12_feed_43 rfl (List.mem_of_getElem? (i := 0) rfl) ?_
      refine uu_iload dX12_feed_44 (List.mem_of_getElem? (i := 5) rfl) ?_
      obtain ⟨s11, e12, h⟩ := uu_ob h
      refine uu_cv (d1 := 0) (k := 1079) (ci := 12) (T := TX12) (N := 153) (As := [.int x5]) (st := []) (st' := []) (xc_X12_lay uk  e12) so_1079.is (by decide) rfl kX12_lay lX12_28 sX12_lay (by decide) (Nat.le_of_ble_eq_true rfl) dX12_feed_46 rfl ?_
      refine uu_iconst (v := 1) dX12_feed_49 (by decide) ?_
      have hr := Option.some.inj h
      subst hr
      exact uu_zret (x := bI true) rfl (bI_z _) dX12_feed_50
    · replace h := uu_neg c2 h
      refine uu_iconst (v := 0) dX12_feed_20 (by decide) ?_
      have hr := Option.some.inj h
      subst hr
      exact uu_zret (x := bI false) rfl (bI_z _) dX12_feed_21
def fn_X12_say (x1 : Int32) (x2 : Int32) (s : uS) : Option uS := (iget 20 s 1086 x1).bind fun v1 => if v1 = 10000 then (some s) else ((iput 20 s 1086 x1 (v1 + 1)).bind fun s4 => if x1 = 0 then ((iput 21 s4 1081 v1 x2.toInt8.toInt32).bind fun s6 => some s6) else (if x1 = 1 then ((iput 21 s4 1082 v1 x2.toInt8.toInt32).bind fun s8 => some s8) else (if x1 = 2 then ((iput 21 s4 1083 v1 x2.toInt8.toInt32).bind fun s10 => some s10) else (if x1 = 3 then ((iput 21 s4 1084 v1 x2.toInt8.toInt32).bind fun s12 => some s12) else ((iput 21 s4 1085 v1 x2.toInt8.toInt32).bind fun s14 => some s14)))))
set_option maxRecDepth 100000 in
set_option maxHeartbeats 4000000 in
theorem xc_X12_say {l : Launch} {D : va_G} {A : Nat → ClassId} {B : Nat} {Z : State → Heap → Prop} {vF : Value} (uk : uK B Z vF) {x1 : Int32} {x2 : Int32} {s : uS} {r : uS}  (h : fn_X12_say x1 x2 s = some r) : CU l D A B Z 0 mX12_say s [.ref (B + 1079), .int x1, .int x2] (r, none) := by
  unfold fn_X12_say at h
  refine cu_of rfl uk.1.1 (Nat.le_of_ble_eq_true rfl) ?_
  show GU _ _ _ _ _ _ _ _ _ 0 [(0, .ref (B + 1079)), (1, .int x1), (2, .int x2)] []
  refine uu_aload_n dX12_say_0 rfl (List.mem_of_getElem? (i := 0) rfl) ?_
  refine uu_geta (ci := 12) (N := 153) fX12_31 (by decide) so_1079.is (by decide) (c := 1086) (by decide) dX12_say_1 ?_
  refine uu_iload_n dX12_say_4 rfl (List.mem_of_getElem? (i := 1) rfl) ?_
  obtain ⟨v1, e2, h⟩ := uu_ob h
  refine uu_iald e2 dX12_say_5 ?_
  refine uu_istore_n dX12_say_6 rfl (by decide) rfl ?_
  refine uu_iload_n dX12_say_7 rfl (List.mem_of_getElem? (i := 0) rfl) ?_
  refine uu_sipush (v := 10000) dX12_say_8 (by decide) ?_
  refine uu_icmp_ne (tgt := 15) dX12_say_11 (by decide) (fun c3 => ?_) (fun c3 => ?_)
  · replace h := uu_neg c3 h
    refine uu_aload_n dX12_say_15 rfl (List.mem_of_getElem? (i := 1) rfl) ?_
    refine uu_geta (ci := 12) (N := 153) fX12_31 (by decide) so_1079.is (by decide) (c := 1086) (by decide) dX12_say_16 ?_
    refine uu_iload_n dX12_say_19 rfl (List.mem_of_getElem? (i := 2) rfl) ?_
    refine uu_iload_n dX12_say_20 rfl (List.mem_of_getElem? (i := 0) rfl) ?_
    refine uu_iconst (v := 1) dX12_say_21 (by decide) ?_
    refine uu_iadd dX12_say_22 ?_
    obtain ⟨s4, e5, h⟩ := uu_ob h
    refine uu_iast e5 dX12_say_23 ?_
    refine uu_iload_n dX12_say_24 rfl (List.mem_of_getElem? (i := 2) rfl) ?_
    by_cases c25_0 : x1 = 0
    · replace h := uu_pos c25_0 h
      refine uu_tabE (tgt := 56) (off := 31) (v := 0) dX12_say_25 c25_0 (by decide) (by decide) rfl (by decide) ?_
      refine uu_aload_n dX12_say_56 rfl (List.mem_of_getElem? (i := 1) rfl) ?_
      refine uu_geta (ci := 12) (N := 153) fX12_34 (by decide) so_1079.is (by decide) (c := 1081) (by decide) dX12_say_57 ?_
      refine uu_iload_n dX12_say_60 rfl (List.mem_of_getElem? (i := 0) rfl) ?_
      refine uu_iload_n dX12_say_61 rfl (List.mem_of_getElem? (i := 3) rfl) ?_
      refine uu_i2b dX12_say_62 rfl ?_
      obtain ⟨s6, e7, h⟩ := uu_ob h
      refine uu_bast e7 dX12_say_63 ?_
      have hr := Option.some.inj h
      subst hr
      exact uu_vret rfl dX12_say_64
    replace h := uu_neg c25_0 h
    by_cases c25_1 : x1 = 1
    · replace h := uu_pos c25_1 h
      refine uu_tabE (tgt := 65) (off := 40) (v := 1) dX12_say_25 c25_1 (by decide) (by decide) rfl (by decide) ?_
      refine uu_aload_n dX12_say_65 rfl (List.mem_of_getElem? (i := 1) rfl) ?_
      refine uu_geta (ci := 12) (N := 153) fX12_38 (by decide) so_1079.is (by decide) (c := 1082) (by decide) dX12_say_66 ?_
      refine uu_iload_n dX12_say_69 rfl (List.mem_of_getElem? (i := 0) rfl) ?_
      refine uu_iload_n dX12_say_70 rfl (List.mem_of_getElem? (i := 3) rfl) ?_
      refine uu_i2b dX12_say_71 rfl ?_
      obtain ⟨s8, e9, h⟩ := uu_ob h
      refine uu_bast e9 dX12_say_72 ?_
      have hr := Option.some.inj h
      subst hr
      exact uu_vret rfl dX12_say_73
    replace h := uu_neg c25_1 h
    by_cases c25_2 : x1 = 2
    · replace h := uu_pos c25_2 h
      refine uu_tabE (tgt := 74) (off := 49) (v := 2) dX12_say_25 c25_2 (by decide) (by decide) rfl (by decide) ?_
      refine uu_aload_n dX12_say_74 rfl (List.mem_of_getElem? (i := 1) rfl) ?_
      refine uu_geta (ci := 12) (N := 153) fX12_41 (by decide) so_1079.is (by decide) (c := 1083) (by decide) dX12_say_75 ?_
      refine uu_iload_n dX12_say_78 rfl (List.mem_of_getElem? (i := 0) rfl) ?_
      refine uu_iload_n dX12_say_79 rfl (List.mem_of_getElem? (i := 3) rfl) ?_
      refine uu_i2b dX12_say_80 rfl ?_
      obtain ⟨s10, e11, h⟩ := uu_ob h
      refine uu_bast e11 dX12_say_81 ?_
      have hr := Option.some.inj h
      subst hr
      exact uu_vret rfl dX12_say_82
    replace h := uu_neg c25_2 h
    by_cases c25_3 : x1 = 3
    · replace h := uu_pos c25_3 h
      refine uu_tabE (tgt := 83) (off := 58) (v := 3) dX12_say_25 c25_3 (by decide) (by decide) rfl (by decide) ?_
      refine uu_aload_n dX12_say_83 rfl (List.mem_of_getElem? (i := 1) rfl) ?_
      refine uu_geta (ci := 12) (N := 153) fX12_44 (by decide) so_1079.is (by decide) (c := 1084) (by decide) dX12_say_84 ?_
      refine uu_iload_n dX12_say_87 rfl (List.mem_of_getElem? (i := 0) rfl) ?_
      refine uu_iload_n dX12_say_88 rfl (List.mem_of_getElem? (i := 3) rfl) ?_
      refine uu_i2b dX12_say_89 rfl ?_
      obtain ⟨s12, e13, h⟩ := uu_ob h
      refine uu_bast e13 dX12_say_90 ?_
      have hr := Option.some.inj h
      subst hr
      exact uu_vret rfl dX12_say_91
    replace h := uu_neg c25_3 h
    have cx25 : (x1).toInt < 0 ∨ 3 < (x1).toInt := by
      refine Decidable.byContradiction fun q => ?_
      rcases (show (x1).toInt = 0 ∨ (x1).toInt = 1 ∨ (x1).toInt = 2 ∨ (x1).toInt = 3 by omega) with q | q | q | q
      · exact c25_0 (sw_eq q (by decide))
      · exact c25_1 (sw_eq q (by decide))
      · exact c25_2 (sw_eq q (by decide))
      · exact c25_3 (sw_eq q (by decide))
    refine uu_tableOut (tgt := 92) dX12_say_25 cx25 (by decide) ?_
    refine uu_aload_n dX12_say_92 rfl (List.mem_of_getElem? (i := 1) rfl) ?_
    refine uu_geta (ci := 12) (N := 153) fX12_47 (by decide) so_1079.is (by decide) (c := 1085) (by decide) dX12_say_93 ?_
    refine uu_iload_n dX12_say_96 rfl (List.mem_of_getElem? (i := 0) rfl) ?_
    refine uu_iload_n dX12_say_97 rfl (List.mem_of_getElem? (i := 3) rfl) ?_
    refine uu_i2b dX12_say_98 rfl ?_
    obtain ⟨s14, e15, h⟩ := uu_ob h
    refine uu_bast e15 dX12_say_99 ?_
    have hr := Option.some.inj h
    subst hr
    exact uu_vret rfl dX12_say_100
  · replace h := uu_pos c3 h
    have hr := Option.some.inj h
    subst hr
    exact uu_vret rfl dX12_say_14
theorem dX12_saidAt_0 : decode cX12_saidAt 0 = .ok (.iload_n 1, 1) := by decide +kernel
theorem dX12_saidAt_1 : decode cX12_saidAt 1 = .ok (.tableswitch 75 0 3 #[31, 42, 53, 64], 31) := by decide +kernel
theorem dX12_saidAt_32 : decode cX12_saidAt 32 = .ok (.aload_n 0, 1) := by decide +kernel
theorem dX12_saidAt_33 : decode cX12_saidAt 33 = .ok (.getfield 34, 3) := by decide +kernel
theorem dX12_saidAt_36 : decode cX12_saidAt 36 = .ok (.iload_n 2, 1) := by decide +kernel
theorem dX12_saidAt_37 : decode cX12_saidAt 37 = .ok (.baload, 1) := by decide +kernel
theorem dX12_saidAt_38 : decode cX12_saidAt 38 = .ok (.sipush 255, 3) := by decide +kernel
theorem dX12_saidAt_41 : decode cX12_saidAt 41 = .ok (.iand, 1) := by decide +kernel
theorem dX12_saidAt_42 : decode cX12_saidAt 42 = .ok (.ireturn, 1) := by decide +kernel
theorem dX12_saidAt_43 : decode cX12_saidAt 43 = .ok (.aload_n 0, 1) := by decide +kernel
theorem dX12_saidAt_44 : decode cX12_saidAt 44 = .ok (.getfield 38, 3) := by decide +kernel
theorem dX12_saidAt_47 : decode cX12_saidAt 47 = .ok (.iload_n 2, 1) := by decide +kernel
theorem dX12_saidAt_48 : decode cX12_saidAt 48 = .ok (.baload, 1) := by decide +kernel
theorem dX12_saidAt_49 : decode cX12_saidAt 49 = .ok (.sipush 255, 3) := by decide +kernel
theorem dX12_saidAt_52 : decode cX12_saidAt 52 = .ok (.iand, 1) := by decide +kernel
theorem dX12_saidAt_53 : decode cX12_saidAt 53 = .ok (.ireturn, 1) := by decide +kernel
theorem dX12_saidAt_54 : decode cX12_saidAt 54 = .ok (.aload_n 0, 1) := by decide +kernel
theorem dX12_saidAt_55 : decode cX12_saidAt 55 = .ok (.getfield 41, 3) := by decide +kernel
theorem dX12_saidAt_58 : decode cX12_saidAt 58 = .ok (.iload_n 2, 1) := by decide +kernel
theorem dX12_saidAt_59 : decode cX12_saidAt 59 = .ok (.baload, 1) := by decide +kernel
theorem dX12_saidAt_60 : decode cX12_saidAt 60 = .ok (.sipush 255, 3) := by decide +kernel
theorem dX12_saidAt_63 : decode cX12_saidAt 63 = .ok (.iand, 1) := by decide +kernel
theorem dX12_saidAt_64 : decode cX12_saidAt 64 = .ok (.ireturn, 1) := by decide +kernel
theorem dX12_saidAt_65 : decode cX12_saidAt 65 = .ok (.aload_n 0, 1) := by decide +kernel
theorem dX12_saidAt_66 : decode cX12_saidAt 66 = .ok (.getfield 44, 3) := by decide +kernel
theorem dX12_saidAt_69 : decode cX12_saidAt 69 = .ok (.iload_n 2, 1) := by decide +kernel
theorem dX12_saidAt_70 : decode cX12_saidAt 70 = .ok (.baload, 1) := by decide +kernel
theorem dX12_saidAt_71 : decode cX12_saidAt 71 = .ok (.sipush 255, 3) := by decide +kernel
theorem dX12_saidAt_74 : decode cX12_saidAt 74 = .ok (.iand, 1) := by decide +kernel
theorem dX12_saidAt_75 : decode cX12_saidAt 75 = .ok (.ireturn, 1) := by decide +kernel
theorem dX12_saidAt_76 : decode cX12_saidAt 76 = .ok (.aload_n 0, 1) := by decide +kernel
theorem dX12_saidAt_77 : decode cX12_saidAt 77 = .ok (.getfield 47, 3) := by decide +kernel
theorem dX12_saidAt_80 : decode cX12_saidAt 80 = .ok (.iload_n 2, 1) := by decide +kernel
theorem dX12_saidAt_81 : decode cX12_saidAt 81 = .ok (.baload, 1) := by decide +kernel
theorem dX12_saidAt_82 : decode cX12_saidAt 82 = .ok (.sipush 255, 3) := by decide +kernel
theorem dX12_saidAt_85 : decode cX12_saidAt 85 = .ok (.iand, 1) := by decide +kernel
theorem dX12_saidAt_86 : decode cX12_saidAt 86 = .ok (.ireturn, 1) := by decide +kernel
def fn_X12_saidAt (x1 : Int32) (x2 : Int32) (s : uS) : Option Int32 := if x1 = 0 then ((iget 21 s 1081 x2).bind fun v1 => some (v1 &&& 255)) else (if x1 = 1 then ((iget 21 s 1082 x2).bind fun v3 => some (v3 &&& 255)) else (if x1 = 2 then ((iget 21 s 1083 x2).bind fun v5 => some (v5 &&& 255)) else (if x1 = 3 then ((iget 21 s 1084 x2).bind fun v7 => some (v7 &&& 255)) else ((iget 21 s 1085 x2).bind fun v9 => some (v9 &&& 255)))))
set_option maxRecDepth 100000 in
set_option maxHeartbeats 4000000 in
theorem xc_X12_saidAt {l : Launch} {D : va_G} {A : Nat → ClassId} {B : Nat} {Z : State → Heap → Prop} {vF : Value} (uk : uK B Z vF) {x1 : Int32} {x2 : Int32} {s : uS} {r : Int32}  (h : fn_X12_saidAt x1 x2 s = some r) : CU l D A B Z 0 mX12_saidAt s [.ref (B + 1079), .int x1, .int x2] (s, some (.int r)) := by
  unfold fn_X12_saidAt at h
  refine cu_of rfl uk.1.1 (Nat.le_of_ble_eq_true rfl) ?_
  show GU _ _ _ _ _ _ _ _ _ 0 [(0, .ref (B + 1079)), (1, .int x1), (2, .int x2)] []
  refine uu_iload_n dX12_saidAt_0 rfl (List.mem_of_getElem? (i := 1) rfl) ?_
  by_cases c1_0 : x1 = 0
  · replace h := uu_pos c1_0 h
    refine uu_tabE (tgt := 32) (off := 31) (v := 0) dX12_saidAt_1 c1_0 (by decide) (by decide) rfl (by decide) ?_
    refine uu_aload_n dX12_saidAt_32 rfl (List.mem_of_getElem? (i := 0) rfl) ?_
    refine uu_geta (ci := 12) (N := 153) fX12_34 (by decide) so_1079.is (by decide) (c := 1081) (by decide) dX12_saidAt_33 ?_
    refine uu_iload_n dX12_saidAt_36 rfl (List.mem_of_getElem? (i := 2) rfl) ?_
    obtain ⟨v1, e2, h⟩ := uu_ob h
    refine uu_bald e2 dX12_saidAt_37 ?_
    refine uu_sipush (v := 255) dX12_saidAt_38 (by decide) ?_
    refine uu_iand dX12_saidAt_41 ?_
    have hr := Option.some.inj h
    subst hr
    exact uu_iret rfl dX12_saidAt_42
  replace h := uu_neg c1_0 h
  by_cases c1_1 : x1 = 1
  · replace h := uu_pos c1_1 h
    refine uu_tabE (tgt := 43) (off := 42) (v := 1) dX12_saidAt_1 c1_1 (by decide) (by decide) rfl (by decide) ?_
    refine uu_aload_n dX12_saidAt_43 rfl (List.mem_of_getElem? (i := 0) rfl) ?_
    refine uu_geta (ci := 12) (N := 153) fX12_38 (by decide) so_1079.is (by decide) (c := 1082) (by decide) dX12_saidAt_44 ?_
    refine uu_iload_n dX12_saidAt_47 rfl (List.mem_of_getElem? (i := 2) rfl) ?_
    obtain ⟨v3, e4, h⟩ := uu_ob h
    refine uu_bald e4 dX12_saidAt_48 ?_
    refine uu_sipush (v := 255) dX12_saidAt_49 (by decide) ?_
    refine uu_iand dX12_saidAt_52 ?_
    have hr := Option.some.inj h
    subst hr
    exact uu_iret rfl dX12_saidAt_53
  replace h := uu_neg c1_1 h
  by_cases c1_2 : x1 = 2
  · replace h := uu_pos c1_2 h
    refine uu_tabE (tgt := 54) (off := 53) (v := 2) dX12_saidAt_1 c1_2 (by decide) (by decide) rfl (by decide) ?_
    refine uu_aload_n dX12_saidAt_54 rfl (List.mem_of_getElem? (i := 0) rfl) ?_
    refine uu_geta (ci := 12) (N := 153) fX12_41 (by decide) so_1079.is (by decide) (c := 1083) (by decide) dX12_saidAt_55 ?_
    refine uu_iload_n dX12_saidAt_58 rfl (List.mem_of_getElem? (i := 2) rfl) ?_
    obtain ⟨v5, e6, h⟩ := uu_ob h
    refine uu_bald e6 dX12_saidAt_59 ?_
    refine uu_sipush (v := 255) dX12_saidAt_60 (by decide) ?_
    refine uu_iand dX12_saidAt_63 ?_
    have hr := Option.some.inj h
    subst hr
    exact uu_iret rfl dX12_saidAt_64
  replace h := uu_neg c1_2 h
  by_cases c1_3 : x1 = 3
  · replace h := uu_pos c1_3 h
    refine uu_tabE (tgt := 65) (off := 64) (v := 3) dX12_saidAt_1 c1_3 (by decide) (by decide) rfl (by decide) ?_
    refine uu_aload_n dX12_saidAt_65 rfl (List.mem_of_getElem? (i := 0) rfl) ?_
    refine uu_geta (ci := 12) (N := 153) fX12_44 (by decide) so_1079.is (by decide) (c := 1084) (by decide) dX12_saidAt_66 ?_
    refine uu_iload_n dX12_saidAt_69 rfl (List.mem_of_getElem? (i := 2) rfl) ?_
    obtain ⟨v7, e8, h⟩ := uu_ob h
    refine uu_bald e8 dX12_saidAt_70 ?_
    refine uu_sipush (v := 255) dX12_saidAt_71 (by decide) ?_
    refine uu_iand dX12_saidAt_74 ?_
    have hr := Option.some.inj h
    subst hr
    exact uu_iret rfl dX12_saidAt_75
  replace h := uu_neg c1_3 h
  have cx1 : (x1).toInt < 0 ∨ 3 < (x1).toInt := by
    refine Decidable.byContradiction fun q => ?_
    rcases (show (x1).toInt = 0 ∨ (x1).toInt = 1 ∨ (x1).toInt = 2 ∨ (x1).toInt = 3 by omega) with q | q | q | q
    · exact c1_0 (sw_eq q (by decide))
    · exact c1_1 (sw_eq q (by decide))
    · exact c1_2 (sw_eq q (by decide))
    · exact c1_3 (sw_eq q (by decide))
  refine uu_tableOut (tgt := 76) dX12_saidAt_1 cx1 (by decide) ?_
  refine uu_aload_n dX12_saidAt_76 rfl (List.mem_of_getElem? (i := 0) rfl) ?_
  refine uu_geta (ci := 12) (N := 153) fX12_47 (by decide) so_1079.is (by decide) (c := 1085) (by decide) dX12_saidAt_77 ?_
  refine uu_iload_n dX12_saidAt_80 rfl (List.mem_of_getElem? (i := 2) rfl) ?_
  obtain ⟨v9, e10, h⟩ := uu_ob h
  refine uu_bald e10 dX12_saidAt_81 ?_
  refine uu_sipush (v := 255) dX12_saidAt_82 (by decide) ?_
  refine uu_iand dX12_saidAt_85 ?_
  have hr := Option.some.inj h
  subst hr
  exact uu_iret rfl dX12_saidAt_86
theorem dX12_forget_19 : decode cX12_forget 19 = .ok (.iload 4, 2) := by decide +kernel
theorem dX12_forget_21 : decode cX12_forget 21 = .ok (.iload_n 3, 1) := by decide +kernel
theorem dX12_forget_22 : decode cX12_forget 22 = .ok (.if_icmp .ge 23, 3) := by decide +kernel
theorem dX12_forget_45 : decode cX12_forget 45 = .ok (.return_, 1) := by decide +kernel
theorem dX12_forget_25 : decode cX12_forget 25 = .ok (.aload_n 0, 1) := by decide +kernel
theorem dX12_forget_26 : decode cX12_forget 26 = .ok (.iload_n 1, 1) := by decide +kernel
theorem dX12_forget_27 : decode cX12_forget 27 = .ok (.aload_n 0, 1) := by decide +kernel
theorem dX12_forget_28 : decode cX12_forget 28 = .ok (.iload_n 1, 1) := by decide +kernel
theorem dX12_forget_29 : decode cX12_forget 29 = .ok (.iload 4, 2) := by decide +kernel
theorem dX12_forget_31 : decode cX12_forget 31 = .ok (.iload_n 2, 1) := by decide +kernel
theorem dX12_forget_32 : decode cX12_forget 32 = .ok (.iadd, 1) := by decide +kernel
theorem dX12_forget_33 : decode cX12_forget 33 = .ok (.invokevirtual 50, 3) := by decide +kernel
theorem dX12_forget_36 : decode cX12_forget 36 = .ok (.invokevirtual 54, 3) := by decide +kernel
theorem dX12_forget_39 : decode cX12_forget 39 = .ok (.iinc 4 1, 3) := by decide +kernel
theorem dX12_forget_42 : decode cX12_forget 42 = .ok (.goto (-23), 3) := by decide +kernel
theorem dX12_forget_0 : decode cX12_forget 0 = .ok (.aload_n 0, 1) := by decide +kernel
theorem dX12_forget_1 : decode cX12_forget 1 = .ok (.getfield 31, 3) := by decide +kernel
theorem dX12_forget_4 : decode cX12_forget 4 = .ok (.iload_n 1, 1) := by decide +kernel
theorem dX12_forget_5 : decode cX12_forget 5 = .ok (.iaload, 1) := by decide +kernel
theorem dX12_forget_6 : decode cX12_forget 6 = .ok (.iload_n 2, 1) := by decide +kernel
theorem dX12_forget_7 : decode cX12_forget 7 = .ok (.isub, 1) := by decide +kernel
theorem dX12_forget_8 : decode cX12_forget 8 = .ok (.istore_n 3, 1) := by decide +kernel
theorem dX12_forget_9 : decode cX12_forget 9 = .ok (.aload_n 0, 1) := by decide +kernel
theorem dX12_forget_10 : decode cX12_forget 10 = .ok (.getfield 31, 3) := by decide +kernel
theorem dX12_forget_13 : decode cX12_forget 13 = .ok (.iload_n 1, 1) := by decide +kernel
theorem dX12_forget_14 : decode cX12_forget 14 = .ok (.iconst 0, 1) := by decide +kernel
theorem dX12_forget_15 : decode cX12_forget 15 = .ok (.iastore, 1) := by decide +kernel
theorem dX12_forget_16 : decode cX12_forget 16 = .ok (.iconst 0, 1) := by decide +kernel
theorem dX12_forget_17 : decode cX12_forget 17 = .ok (.istore 4, 2) := by decide +kernel
def fb_X12_forget_19 (K19 : Int32 → Int32 → Int32 → Int32 → uS → Option uS) (x1 : Int32) (x2 : Int32) (x3 : Int32) (x4 : Int32) (s : uS) : Option uS := if x3 ≤ x4 then (some s) else ((fn_X12_saidAt x1 (x4 + x2) s).bind fun v2 => (fn_X12_say x1 v2 s).bind fun s4 => K19 x1 x2 x3 (x4 + 1) s4)
set_option maxRecDepth 100000 in
set_option maxHeartbeats 4000000 in
theorem xb_X12_forget_19 {l : Launch} {D : va_G} {A : Nat → ClassId} {B : Nat} {Z : State → Heap → Prop} {vF : Value} (uk : uK B Z vF) {K19 : Int32 → Int32 → Int32 → Int32 → uS → Option uS} (hK19 : ∀ (x1 : Int32) (x2 : Int32) (x3 : Int32) (x4 : Int32)  (s : uS) (r : uS), K19 x1 x2 x3 x4 s = some r → GU l D A B Z mX12_forget 1 (r, none) s 19 [(0, .ref (B + 1079)), (1, .int x1), (2, .int x2), (3, .int x3), (4, .int x4)] []) {x1 : Int32} {x2 : Int32} {x3 : Int32} {x4 : Int32} {s : uS} {r : uS}  (h : fb_X12_forget_19 K19 x1 x2 x3 x4 s = some r) : GU l D A B Z mX12_forget 1 (r, none) s 19 [(0, .ref (B + 1079)), (1, .int x1), (2, .int x2), (3, .int x3), (4, .int x4)] [] := by
  unfold fb_X12_forget_19 at h
  refine uu_iload dX12_forget_19 (List.mem_of_getElem? (i := 4) rfl) ?_
  refine uu_iload_n dX12_forget_21 rfl (List.mem_of_getElem? (i := 3) rfl) ?_
  refine uu_icmp_ge (tgt := 45) dX12_forget_22 (by decide) (fun c1 => ?_) (fun c1 => ?_)
  · replace h := uu_pos c1 h
    have hr := Option.some.inj h
    subst hr
    exact uu_vret rfl dX12_forget_45
  · replace h := uu_neg c1 h
    refine uu_aload_n dX12_forget_25 rfl (List.mem_of_getElem? (i := 0) rfl) ?_
    refine uu_iload_n dX12_forget_26 rfl (List.mem_of_getElem? (i := 1) rfl) ?_
    refine uu_aload_n dX12_forget_27 rfl (List.mem_of_getElem? (i := 0) rfl) ?_
    refine uu_iload_n dX12_forget_28 rfl (List.mem_of_getElem? (i := 1) rfl) ?_
    refine uu_iload dX12_forget_29 (List.mem_of_getElem? (i := 4) rfl) ?_
    refine uu_iload_n dX12_forget_31 rfl (List.mem_of_getElem? (i := 2) rfl) ?_
    refine uu_iadd dX12_forget_32 ?_
    obtain ⟨v2, e3, h⟩ := uu_ob h
    refine uu_cv (d1 := 0) (k := 1079) (ci := 12) (T := TX12) (N := 153) (As := [.int x1, .int (x4 + x2)]) (st := [.int x1, .ref (B + 1079)]) (st' := [.int v2, .int x1, .ref (B + 1079)]) (xc_X12_saidAt uk  e3) so_1079.is (by decide) rfl kX12_saidAt lX12_50 sX12_saidAt (by decide) (Nat.le_of_ble_eq_true rfl) dX12_forget_33 rfl ?_
    obtain ⟨s4, e5, h⟩ := uu_ob h
    refine uu_cv (d1 := 0) (k := 1079) (ci := 12) (T := TX12) (N := 153) (As := [.int x1, .int v2]) (st := []) (st' := []) (xc_X12_say uk  e5) so_1079.is (by decide) rfl kX12_say lX12_54 sX12_say (by decide) (Nat.le_of_ble_eq_true rfl) dX12_forget_36 rfl ?_
    refine uu_iinc (v := x4 + 1) dX12_forget_39 (k := 4) rfl rfl (by decide) rfl ?_
    refine uu_goto (tgt := 19) dX12_forget_42 (by decide) ?_
    refine uu_lv [1, 2, 3, 4, 0] (lv' := [(0, .ref (B + 1079)), (1, .int x1), (2, .int x2), (3, .int x3), (4, .int (x4 + 1))]) rfl ?_
    exact hK19 x1 x2 x3 (x4 + 1) _ _ h
def fn_X12_forget_19  : Nat → Int32 → Int32 → Int32 → Int32 → uS → Option uS
  | 0 => fun _ _ _ _ _ => none
  | n + 1 => fb_X12_forget_19 (fn_X12_forget_19  n)
set_option maxRecDepth 100000 in
set_option maxHeartbeats 4000000 in
theorem xn_X12_forget_19 {l : Launch} {D : va_G} {A : Nat → ClassId} {B : Nat} {Z : State → Heap → Prop} {vF : Value} (uk : uK B Z vF)   : ∀ (n : Nat) (x1 : Int32) (x2 : Int32) (x3 : Int32) (x4 : Int32)  (s : uS) (r : uS), fn_X12_forget_19  n x1 x2 x3 x4 s = some r → GU l D A B Z mX12_forget 1 (r, none) s 19 [(0, .ref (B + 1079)), (1, .int x1), (2, .int x2), (3, .int x3), (4, .int x4)] [] := by
  intro n
  induction n with
  | zero => intro x1 x2 x3 x4 s r h
            cases h
  | succ n ih => intro x1 x2 x3 x4 s r h
                 exact xb_X12_forget_19 uk ih  h
def fn_X12_forget (x1 : Int32) (x2 : Int32) (s : uS) : Option uS := (iget 20 s 1086 x1).bind fun v1 => (iput 20 s 1086 x1 0).bind fun s3 => fn_X12_forget_19 uFu x1 x2 (v1 - x2) 0 s3
set_option maxRecDepth 100000 in
set_option maxHeartbeats 4000000 in
theorem xc_X12_forget {l : Launch} {D : va_G} {A : Nat → ClassId} {B : Nat} {Z : State → Heap → Prop} {vF : Value} (uk : uK B Z vF) {x1 : Int32} {x2 : Int32} {s : uS} {r : uS}  (h : fn_X12_forget x1 x2 s = some r) : CU l D A B Z 1 mX12_forget s [.ref (B + 1079), .int x1, .int x2] (r, none) := by
  unfold fn_X12_forget at h
  refine cu_of rfl uk.1.1 (Nat.le_of_ble_eq_true rfl) ?_
  show GU _ _ _ _ _ _ _ _ _ 0 [(0, .ref (B + 1079)), (1, .int x1), (2, .int x2)] []
  refine uu_aload_n dX12_forget_0 rfl (List.mem_of_getElem? (i := 0) rfl) ?_
  refine uu_geta (ci := 12) (N := 153) fX12_31 (by decide) so_1079.is (by decide) (c := 1086) (by decide) dX12_forget_1 ?_
  refine uu_iload_n dX12_forget_4 rfl (List.mem_of_getElem? (i := 1) rfl) ?_
  obtain ⟨v1, e2, h⟩ := uu_ob h
  refine uu_iald e2 dX12_forget_5 ?_
  refine uu_iload_n dX12_forget_6 rfl (List.mem_of_getElem? (i := 2) rfl) ?_
  refine uu_isub dX12_forget_7 ?_
  refine uu_istore_n dX12_forget_8 rfl (by decide) rfl ?_
  refine uu_aload_n dX12_forget_9 rfl (List.mem_of_getElem? (i := 1) rfl) ?_
  refine uu_geta (ci := 12) (N := 153) fX12_31 (by decide) so_1079.is (by decide) (c := 1086) (by decide) dX12_forget_10 ?_
  refine uu_iload_n dX12_forget_13 rfl (List.mem_of_getElem? (i := 2) rfl) ?_
  refine uu_iconst (v := 0) dX12_forget_14 (by decide) ?_
  obtain ⟨s3, e4, h⟩ := uu_ob h
  refine uu_iast e4 dX12_forget_15 ?_
  refine uu_iconst (v := 0) dX12_forget_16 (by decide) ?_
  refine uu_istore dX12_forget_17 (by decide) rfl ?_
  refine uu_lv [2, 3, 4, 1, 0] (lv' := [(0, .ref (B + 1079)), (1, .int x1), (2, .int x2), (3, .int (v1 - x2)), (4, .int 0)]) rfl ?_
  exact xn_X12_forget_19 uk  _ _ _ _ _ _ _ h
def fb_X12_tell_2 (K2 : Int32 → List Nat → Int32 → uS → Option uS) (x1 : Int32) (w2 : List Nat) (x3 : Int32) (s : uS) : Option uS := if (nI w2.length) ≤ x3 then (some s) else ((stget w2 x3).bind fun v2 => (fn_X12_say x1 v2 s).bind fun s4 => K2 x1 w2 (x3 + 1) s4)
set_option maxRecDepth 100000 in
set_option maxHeartbeats 4000000 in
theorem xb_X12_tell_2 {l : Launch} {D : va_G} {A : Nat → ClassId} {B : Nat} {Z : State → Heap → Prop} {vF : Value} (uk : uK B Z vF) {K2 : Int32 → List Nat → Int32 → uS → Option uS} (hK2 : ∀ (x1 : Int32) (w2 : List Nat) (x3 : Int32) {qw2 pw2 : Nat} (hw2 : uStr B Z qw2 pw2 w2) (s : uS) (r : uS), K2 x1 w2 x3 s = some r → GU l D A B Z mX12_tell 4 (r, none) s 2 [(0, .ref (B + 1079)), (1, .int x1), (2, .ref qw2), (3, .int x3)] []) {x1 : Int32} {w2 : List Nat} {x3 : Int32} {s : uS} {r : uS} {qw2 pw2 : Nat} (hw2 : uStr B Z qw2 pw2 w2) (h : fb_X12_tell_2 K2 x1 w2 x3 s = some r) : GU l D A B Z mX12_tell 4 (r, none) s 2 [(0, .ref (B + 1079)), (1, .int x1), (2, .ref qw2), (3, .int x3)] [] := by
  unfold fb_X12_tell_2 at h
  refine uu_iload_n dX12_tell_2 rfl (List.mem_of_getElem? (i := 3) rfl) ?_
  refine uu_aload_n dX12_tell_3 rfl (List.mem_of_getElem? (i := 2) rfl) ?_
  refine uu_slen uk hw2 lX12_58 (by decide) (Nat.le_of_ble_eq_true rfl) dX12_tell_4 ?_
  refine uu_icmp_ge (tgt := 26) dX12_tell_7 (by decide) (fun c1 => ?_) (fun c1 => ?_)
  · replace h := uu_pos c1 h
    have hr := Option.some.inj h
    subst hr
    exact uu_vret rfl dX12_tell_26
  · replace h := uu_neg c1 h
    refine uu_aload_n dX12_tell_10 rfl (List.mem_of_getElem? (i := 0) rfl) ?_
    refine uu_iload_n dX12_tell_11 rfl (List.mem_of_getElem? (i := 1) rfl) ?_
    refine uu_aload_n dX12_tell_12 rfl (List.mem_of_getElem? (i := 2) rfl) ?_
    refine uu_iload_n dX12_tell_13 rfl (List.mem_of_getElem? (i := 3) rfl) ?_
    obtain ⟨v2, e3, h⟩ := uu_ob h
    refine uu_sch uk hw2 e3 lX12_64 (by decide) (Nat.le_of_ble_eq_true rfl) dX12_tell_14 ?_
    obtain ⟨s4, e5, h⟩ := uu_ob h
    refine uu_cv (d1 := 0) (k := 1079) (ci := 12) (T := TX12) (N := 153) (As := [.int x1, .int v2]) (st := []) (st' := []) (xc_X12_say uk  e5) so_1079.is (by decide) rfl kX12_say lX12_54 sX12_say (by decide) (Nat.le_of_ble_eq_true rfl) dX12_tell_17 rfl ?_
    refine uu_iinc (v := x3 + 1) dX12_tell_20 (k := 3) rfl rfl (by decide) rfl ?_
    refine uu_goto (tgt := 2) dX12_tell_23 (by decide) ?_
    refine uu_lv [1, 2, 3, 0] (lv' := [(0, .ref (B + 1079)), (1, .int x1), (2, .ref qw2), (3, .int (x3 + 1))]) rfl ?_
    exact hK2 x1 w2 (x3 + 1) hw2 _ _ h
def fn_X12_tell_2  : Nat → Int32 → List Nat → Int32 → uS → Option uS
  | 0 => fun _ _ _ _ => none
  | n + 1 => fb_X12_tell_2 (fn_X12_tell_2  n)
set_option maxRecDepth 100000 in
set_option maxHeartbeats 4000000 in
theorem xn_X12_tell_2 {l : Launch} {D : va_G} {A : Nat → ClassId} {B : Nat} {Z : State → Heap → Prop} {vF : Value} (uk : uK B Z vF)   : ∀ (n : Nat) (x1 : Int32) (w2 : List Nat) (x3 : Int32) {qw2 pw2 : Nat} (hw2 : uStr B Z qw2 pw2 w2) (s : uS) (r : uS), fn_X12_tell_2  n x1 w2 x3 s = some r → GU l D A B Z mX12_tell 4 (r, none) s 2 [(0, .ref (B + 1079)), (1, .int x1), (2, .ref qw2), (3, .int x3)] [] := by
  intro n
  induction n with
  | zero => intro x1 w2 x3 qw2 pw2 hw2 s r h
            cases h
  | succ n ih => intro x1 w2 x3 qw2 pw2 hw2 s r h
                 exact xb_X12_tell_2 uk ih hw2 h
def fn_X12_tell (x1 : Int32) (w2 : List Nat) (s : uS) : Option uS := fn_X12_tell_2 uFu x1 w2 0 s
set_option maxRecDepth 100000 in
set_option maxHeartbeats 4000000 in
theorem xc_X12_tell {l : Launch} {D : va_G} {A : Nat → ClassId} {B : Nat} {Z : State → Heap → Prop} {vF : Value} (uk : uK B Z vF) {x1 : Int32} {w2 : List Nat} {s : uS} {r : uS} {qw2 pw2 : Nat} (hw2 : uStr B Z qw2 pw2 w2) (h : fn_X12_tell x1 w2 s = some r) : CU l D A B Z 4 mX12_tell s [.ref (B + 1079), .int x1, .ref qw2] (r, none) := by
  unfold fn_X12_tell at h
  refine cu_of rfl uk.1.1 (Nat.le_of_ble_eq_true rfl) ?_
  show GU _ _ _ _ _ _ _ _ _ 0 [(0, .ref (B + 1079)), (1, .int x1), (2, .ref qw2)] []
  refine uu_iconst (v := 0) dX12_tell_0 (by decide) ?_
  refine uu_istore_n dX12_tell_1 rfl (by decide) rfl ?_
  refine uu_lv [1, 2, 3, 0] (lv' := [(0, .ref (B + 1079)), (1, .int x1), (2, .ref qw2), (3, .int 0)]) rfl ?_
  exact xn_X12_tell_2 uk  _ _ _ _ hw2 _ _ h
def fn_X12_line (x1 : Int32) (w2 : List Nat) (s : uS) : Option uS := (fn_X12_tell x1 w2 s).bind fun s1 => (fn_X12_say x1 13 s1).bind fun s3 => (fn_X12_say x1 10 s3).bind fun s5 => some s5
set_option maxRecDepth 100000 in
set_option maxHeartbeats 4000000 in
theorem xc_X12_line {l : Launch} {D : va_G} {A : Nat → ClassId} {B : Nat} {Z : State → Heap → Prop} {vF : Value} (uk : uK B Z vF) {x1 : Int32} {w2 : List Nat} {s : uS} {r : uS} {qw2 pw2 : Nat} (hw2 : uStr B Z qw2 pw2 w2) (h : fn_X12_line x1 w2 s = some r) : CU l D A B Z 5 mX12_line s [.ref (B + 1079), .int x1, .ref qw2] (r, none) := by
  unfold fn_X12_line at h
  refine cu_of rfl uk.1.1 (Nat.le_of_ble_eq_true rfl) ?_
  show GU _ _ _ _ _ _ _ _ _ 0 [(0, .ref (B + 1079)), (1, .int x1), (2, .ref qw2)] []
  refine uu_aload_n dX12_line_0 rfl (List.mem_of_getElem? (i := 0) rfl) ?_
  refine uu_iload_n dX12_line_1 rfl (List.mem_of_getElem? (i := 1) rfl) ?_
  refine uu_aload_n dX12_line_2 rfl (List.mem_of_getElem? (i := 2) rfl) ?_
  obtain ⟨s1, e2, h⟩ := uu_ob h
  refine uu_cv (d1 := 4) (k := 1079) (ci := 12) (T := TX12) (N := 153) (As := [.int x1, .ref qw2]) (st := []) (st' := []) (xc_X12_tell uk hw2 e2) so_1079.is (by decide) rfl kX12_tell lX12_68 sX12_tell (by decide) (Nat.le_of_ble_eq_true rfl) dX12_line_3 rfl ?_
  refine uu_aload_n dX12_line_6 rfl (List.mem_of_getElem? (i := 0) rfl) ?_
  refine uu_iload_n dX12_line_7 rfl (List.mem_of_getElem? (i := 1) rfl) ?_
  refine uu_bipush (v := 13) dX12_line_8 (by decide) ?_
  obtain ⟨s3, e4, h⟩ := uu_ob h
  refine uu_cv (d1 := 0) (k := 1079) (ci := 12) (T := TX12) (N := 153) (As := [.int x1, .int 13]) (st := []) (st' := []) (xc_X12_say uk  e4) so_1079.is (by decide) rfl kX12_say lX12_54 sX12_say (by decide) (Nat.le_of_ble_eq_true rfl) dX12_line_10 rfl ?_
  refine uu_aload_n dX12_line_13 rfl (List.mem_of_getElem? (i := 0) rfl) ?_
  refine uu_iload_n dX12_line_14 rfl (List.mem_of_getElem? (i := 1) rfl) ?_
  refine uu_bipush (v := 10) dX12_line_15 (by decide) ?_
  obtain ⟨s5, e6, h⟩ := uu_ob h
  refine uu_cv (d1 := 0) (k := 1079) (ci := 12) (T := TX12) (N := 153) (As := [.int x1, .int 10]) (st := []) (st' := []) (xc_X12_say uk  e6) so_1079.is (by decide) rfl kX12_say lX12_54 sX12_say (by decide) (Nat.le_of_ble_eq_true rfl) dX12_line_17 rfl ?_
  have hr := Option.some.inj h
  subst hr
  exact uu_vret rfl dX12_line_20
def fb_X12_reply_49 (K49 : Int32 → Int32 → Int64 → Int32 → uS → Option (uS × Int64)) (x1 : Int32) (x2 : Int32) (l3 : Int64) (x5 : Int32) (s : uS) : Option (uS × Int64) := if x2 ≤ x5 then ((fn_X12_forget x1 x2 s).bind fun s2 => some (s2, l3)) else ((fn_X12_saidAt x1 x5 s).bind fun v4 => K49 x1 x2 (l3 ||| (v4.toInt64 <<< (((48 : Int32) - ((8 : Int32) * x5)).toInt64 &&& 63))) (x5 + 1) s)
set_option maxRecDepth 100000 in
set_option maxHeartbeats 4000000 in
theorem xb_X12_reply_49 {l : Launch} {D : va_G} {A : Nat → ClassId} {B : Nat} {Z : State → Heap → Prop} {vF : Value} (uk : uK B Z vF) {K49 : Int32 → Int32 → Int64 → Int32 → uS → Option (uS × Int64)} (hK49 : ∀ (x1 : Int32) (x2 : Int32) (l3 : Int64) (x5 : Int32)  (s : uS) (r : (uS × Int64)), K49 x1 x2 l3 x5 s = some r → GU l D A B Z mX12_reply 2 (r.1, some (.long r.2)) s 49 [(0, .ref (B + 1079)), (1, .int x1), (2, .int x2), (3, .long l3), (5, .int x5)] []) {x1 : Int32} {x2 : Int32} {l3 : Int64} {x5 : Int32} {s : uS} {r : (uS × Int64)}  (h : fb_X12_reply_49 K49 x1 x2 l3 x5 s = some r) : GU l D A B Z mX12_reply 2 (r.1, some (.long r.2)) s 49 [(0, .ref (B + 1079)), (1, .int x1), (2, .int x2), (3, .long l3), (5, .int x5)] [] := by
  unfold fb_X12_reply_49 at h
  refine uu_iload dX12_reply_49 (List.mem_of_getElem? (i := 4) rfl) ?_
  refine uu_iload_n dX12_reply_51 rfl (List.mem_of_getElem? (i := 2) rfl) ?_
  refine uu_icmp_ge (tgt := 81) dX12_reply_52 (by decide) (fun c1 => ?_) (fun c1 => ?_)
  · replace h := uu_pos c1 h
    refine uu_aload_n dX12_reply_81 rfl (List.mem_of_getElem? (i := 0) rfl) ?_
    refine uu_iload_n dX12_reply_82 rfl (List.mem_of_getElem? (i := 1) rfl) ?_
    refine uu_iload_n dX12_reply_83 rfl (List.mem_of_getElem? (i := 2) rfl) ?_
    obtain ⟨s2, e3, h⟩ := uu_ob h
    refine uu_cv (d1 := 1) (k := 1079) (ci := 12) (T := TX12) (N := 153) (As := [.int x1, .int x2]) (st := []) (st' := []) (xc_X12_forget uk  e3) so_1079.is (by decide) rfl kX12_forget lX12_72 sX12_forget (by decide) (Nat.le_of_ble_eq_true rfl) dX12_reply_84 rfl ?_
    refine uu_lload_n dX12_reply_87 rfl (List.mem_of_getElem? (i := 3) rfl) ?_
    have hr := Option.some.inj h
    subst hr
    exact uu_lret rfl dX12_reply_88
  · replace h := uu_neg c1 h
    refine uu_lload_n dX12_reply_55 rfl (List.mem_of_getElem? (i := 3) rfl) ?_
    refine uu_aload_n dX12_reply_56 rfl (List.mem_of_getElem? (i := 0) rfl) ?_
    refine uu_iload_n dX12_reply_57 rfl (List.mem_of_getElem? (i := 1) rfl) ?_
    refine uu_iload dX12_reply_58 (List.mem_of_getElem? (i := 4) rfl) ?_
    obtain ⟨v4, e5, h⟩ := uu_ob h
    refine uu_cv (d1 := 0) (k := 1079) (ci := 12) (T := TX12) (N := 153) (As := [.int x1, .int x5]) (st := [.long l3]) (st' := [.int v4, .long l3]) (xc_X12_saidAt uk  e5) so_1079.is (by decide) rfl kX12_saidAt lX12_50 sX12_saidAt (by decide) (Nat.le_of_ble_eq_true rfl) dX12_reply_60 rfl ?_
    refine uu_i2l dX12_reply_63 rfl ?_
    refine uu_bipush (v := 48) dX12_reply_64 (by decide) ?_
    refine uu_bipush (v := 8) dX12_reply_66 (by decide) ?_
    refine uu_iload dX12_reply_68 (List.mem_of_getElem? (i := 4) rfl) ?_
    refine uu_imul dX12_reply_70 ?_
    refine uu_isub dX12_reply_71 ?_
    refine uu_lshl dX12_reply_72 rfl ?_
    refine uu_lor dX12_reply_73 ?_
    refine uu_lstore_n dX12_reply_74 rfl (by decide) rfl ?_
    refine uu_iinc (v := x5 + 1) dX12_reply_75 (k := 4) rfl rfl (by decide) rfl ?_
    refine uu_goto (tgt := 49) dX12_reply_78 (by decide) ?_
    refine uu_lv [2, 3, 4, 1, 0] (lv' := [(0, .ref (B + 1079)), (1, .int x1), (2, .int x2), (3, .long (l3 ||| (v4.toInt64 <<< (((48 : Int32) - ((8 : Int32) * x5)).toInt64 &&& 63)))), (5, .int (x5 + 1))]) rfl ?_
    exact hK49 x1 x2 (l3 ||| (v4.toInt64 <<< (((48 : Int32) - ((8 : Int32) * x5)).toInt64 &&& 63))) (x5 + 1) _ _ h
def fn_X12_reply_49  : Nat → Int32 → Int32 → Int64 → Int32 → uS → Option (uS × Int64)
  | 0 => fun _ _ _ _ _ => none
  | n + 1 => fb_X12_reply_49 (fn_X12_reply_49  n)
set_option maxRecDepth 100000 in
set_option maxHeartbeats 4000000 in
theorem xn_X12_reply_49 {l : Launch} {D : va_G} {A : Nat → ClassId} {B : Nat} {Z : State → Heap → Prop} {vF : Value} (uk : uK B Z vF)   : ∀ (n : Nat) (x1 : Int32) (x2 : Int32) (l3 : Int64) (x5 : Int32)  (s : uS) (r : (uS × Int64)), fn_X12_reply_49  n x1 x2 l3 x5 s = some r → GU l D A B Z mX12_reply 2 (r.1, some (.long r.2)) s 49 [(0, .ref (B + 1079)), (1, .int x1), (2, .int x2), (3, .long l3), (5, .int x5)] [] := by
  intro n
  induction n with
  | zero => intro x1 x2 l3 x5 s r h
            cases h
  | succ n ih => intro x1 x2 l3 x5 s r h
                 exact xb_X12_reply_49 uk ih  h
def fb_X12_reply_33  (x1 : Int32) (xs0 : Int32) (s : uS) : Option (uS × Int64) := if xs0 = 0 then (some (s, 0)) else (fn_X12_reply_49 uFu x1 xs0 (xs0.toInt64 <<< ((56 : Int32).toInt64 &&& 63)) 0 s)
set_option maxRecDepth 100000 in
set_option maxHeartbeats 4000000 in
theorem xb_X12_reply_33 {l : Launch} {D : va_G} {A : Nat → ClassId} {B : Nat} {Z : State → Heap → Prop} {vF : Value} (uk : uK B Z vF)   {x1 : Int32} {xs0 : Int32} {s : uS} {r : (uS × Int64)}  (h : fb_X12_reply_33  x1 xs0 s = some r) : GU l D A B Z mX12_reply 2 (r.1, some (.long r.2)) s 33 [(0, .ref (B + 1079)), (1, .int x1)] [.int xs0] := by
  unfold fb_X12_reply_33 at h
  refine uu_istore_n dX12_reply_33 rfl (by decide) rfl ?_
  refine uu_iload_n dX12_reply_34 rfl (List.mem_of_getElem? (i := 0) rfl) ?_
  refine uu_if_ne (tgt := 40) dX12_reply_35 (by decide) (fun c1 => ?_) (fun c1 => ?_)
  · replace h := uu_neg c1 h
    refine uu_iload_n dX12_reply_40 rfl (List.mem_of_getElem? (i := 0) rfl) ?_
    refine uu_i2l dX12_reply_41 rfl ?_
    refine uu_bipush (v := 56) dX12_reply_42 (by decide) ?_
    refine uu_lshl dX12_reply_44 rfl ?_
    refine uu_lstore_n dX12_reply_45 rfl (by decide) rfl ?_
    refine uu_iconst (v := 0) dX12_reply_46 (by decide) ?_
    refine uu_istore dX12_reply_47 (by decide) rfl ?_
    refine uu_lv [3, 4, 2, 1, 0] (lv' := [(0, .ref (B + 1079)), (1, .int x1), (2, .int xs0), (3, .long (xs0.toInt64 <<< ((56 : Int32).toInt64 &&& 63))), (5, .int 0)]) rfl ?_
    exact xn_X12_reply_49 uk  _ _ _ _ _ _ _ h
  · replace h := uu_pos c1 h
    refine uu_lconst (v := 0) dX12_reply_38 (by decide) ?_
    have hr := Option.some.inj h
    subst hr
    exact uu_lret rfl dX12_reply_39
def fn_X12_reply (x1 : Int32) (s : uS) : Option (uS × Int64) := if x1 < 0 then (some (s, 0)) else (if x1 ≤ 4 then ((iget 20 s 1086 x1).bind fun v3 => if (7 : Int32) ≤ v3 then (fb_X12_reply_33 x1 7 s) else ((iget 20 s 1086 x1).bind fun v6 => fb_X12_reply_33 x1 v6 s)) else (some (s, 0)))
set_option maxRecDepth 100000 in
set_option maxHeartbeats 4000000 in
theorem xc_X12_reply {l : Launch} {D : va_G} {A : Nat → ClassId} {B : Nat} {Z : State → Heap → Prop} {vF : Value} (uk : uK B Z vF) {x1 : Int32} {s : uS} {r : (uS × Int64)}  (h : fn_X12_reply x1 s = some r) : CU l D A B Z 2 mX12_reply s [.ref (B + 1079), .int x1] (r.1, some (.long r.2)) := by
  unfold fn_X12_reply at h
  refine cu_of rfl uk.1.1 (Nat.le_of_ble_eq_true rfl) ?_
  show GU _ _ _ _ _ _ _ _ _ 0 [(0, .ref (B + 1079)), (1, .int x1)] []
  refine uu_iload_n dX12_reply_0 rfl (List.mem_of_getElem? (i := 1) rfl) ?_
  refine uu_if_lt (tgt := 9) dX12_reply_1 (by decide) (fun c1 => ?_) (fun c1 => ?_)
  · replace h := uu_pos c1 h
    refine uu_lconst (v := 0) dX12_reply_9 (by decide) ?_
    have hr := Option.some.inj h
    subst hr
    exact uu_lret rfl dX12_reply_10
  · replace h := uu_neg c1 h
    refine uu_iload_n dX12_reply_4 rfl (List.mem_of_getElem? (i := 1) rfl) ?_
    refine uu_iconst (v := 4) dX12_reply_5 (by decide) ?_
    refine uu_icmp_le (tgt := 11) dX12_reply_6 (by decide) (fun c2 => ?_) (fun c2 => ?_)
    · replace h := uu_pos c2 h
      refine uu_aload_n dX12_reply_11 rfl (List.mem_of_getElem? (i := 0) rfl) ?_
      refine uu_geta (ci := 12) (N := 153) fX12_31 (by decide) so_1079.is (by decide) (c := 1086) (by decide) dX12_reply_12 ?_
      refine uu_iload_n dX12_reply_15 rfl (List.mem_of_getElem? (i := 1) rfl) ?_
      obtain ⟨v3, e4, h⟩ := uu_ob h
      refine uu_iald e4 dX12_reply_16 ?_
      refine uu_bipush (v := 7) dX12_reply_17 (by decide) ?_
      refine uu_icmp_ge (tgt := 31) dX12_reply_19 (by decide) (fun c5 => ?_) (fun c5 => ?_)
      · replace h := uu_pos c5 h
        refine uu_bipush (v := 7) dX12_reply_31 (by decide) ?_
        exact xb_X12_reply_33 uk  h
      · replace h := uu_neg c5 h
        refine uu_aload_n dX12_reply_22 rfl (List.mem_of_getElem? (i := 0) rfl) ?_
        refine uu_geta (ci := 12) (N := 153) fX12_31 (by decide) so_1079.is (by decide) (c := 1086) (by decide) dX12_reply_23 ?_
        refine uu_iload_n dX12_reply_26 rfl (List.mem_of_getElem? (i := 1) rfl) ?_
        obtain ⟨v6, e7, h⟩ := uu_ob h
        refine uu_iald e7 dX12_reply_27 ?_
        refine uu_goto (tgt := 33) dX12_reply_28 (by decide) ?_
        exact xb_X12_reply_33 uk  h
    · replace h := uu_neg c2 h
      refine uu_lconst (v := 0) dX12_reply_9 (by decide) ?_
      have hr := Option.some.inj h
      subst hr
      exact uu_lret rfl dX12_reply_10
abbrev mX12_low : hM := (yX12_low, cX12_low, 1, (some (.int)))
theorem dX12_low_0 : decode cX12_low 0 = .ok (.iload_n 0, 1) := by decide +kernel
theorem dX12_low_1 : decode cX12_low 1 = .ok (.bipush 65, 2) := by decide +kernel
theorem dX12_low_3 : decode cX12_low 3 = .ok (.if_icmp .lt 16, 3) := by decide +kernel
theorem dX12_low_19 : decode cX12_low 19 = .ok (.iload_n 0, 1) := by decide +kernel
theorem dX12_low_20 : decode cX12_low 20 = .ok (.ireturn, 1) := by decide +kernel
theorem dX12_low_6 : decode cX12_low 6 = .ok (.iload_n 0, 1) := by decide +kernel
theorem dX12_low_7 : decode cX12_low 7 = .ok (.bipush 90, 2) := by decide +kernel
theorem dX12_low_9 : decode cX12_low 9 = .ok (.if_icmp .gt 10, 3) := by decide +kernel
theorem dX12_low_12 : decode cX12_low 12 = .ok (.iload_n 0, 1) := by decide +kernel
theorem dX12_low_13 : decode cX12_low 13 = .ok (.bipush 32, 2) := by decide +kernel
theorem dX12_low_15 : decode cX12_low 15 = .ok (.iadd, 1) := by decide +kernel
theorem dX12_low_16 : decode cX12_low 16 = .ok (.goto 4, 3) := by decide +kernel
def fn_X12_low (x0 : Int32) (s : uS) : Option Int32 := if x0 < 65 then (some x0) else (if (90 : Int32) < x0 then (some x0) else (some (x0 + 32)))
set_option maxRecDepth 100000 in
set_option maxHeartbeats 4000000 in
theorem xc_X12_low {l : Launch} {D : va_G} {A : Nat → ClassId} {B : Nat} {Z : State → Heap → Prop} {vF : Value} (uk : uK B Z vF) {x0 : Int32} {s : uS} {r : Int32}  (h : fn_X12_low x0 s = some r) : CU l D A B Z 0 mX12_low s [.int x0] (s, some (.int r)) := by
  unfold fn_X12_low at h
  refine cu_of rfl uk.1.1 (Nat.le_of_ble_eq_true rfl) ?_
  show GU _ _ _ _ _ _ _ _ _ 0 [(0, .int x0)] []
  refine uu_iload_n dX12_low_0 rfl (List.mem_of_getElem? (i := 0) rfl) ?_
  refine uu_bipush (v := 65) dX12_low_1 (by decide) ?_
  refine uu_icmp_lt (tgt := 19) dX12_low_3 (by decide) (fun c1 => ?_) (fun c1 => ?_)
  · replace h := uu_pos c1 h
    refine uu_iload_n dX12_low_19 rfl (List.mem_of_getElem? (i := 0) rfl) ?_
    have hr := Option.some.inj h
    subst hr
    exact uu_iret rfl dX12_low_20
  · replace h := uu_neg c1 h
    refine uu_iload_n dX12_low_6 rfl (List.mem_of_getElem? (i := 0) rfl) ?_
    refine uu_bipush (v := 90) dX12_low_7 (by decide) ?_
    refine uu_icmp_gt (tgt := 19) dX12_low_9 (by decide) (fun c2 => ?_) (fun c2 => ?_)
    · replace h := uu_pos c2 h
      refine uu_iload_n dX12_low_19 rfl (List.mem_of_getElem? (i := 0) rfl) ?_
      have hr := Option.some.inj h
      subst hr
      exact uu_iret rfl dX12_low_20
    · replace h := uu_neg c2 h
      refine uu_iload_n dX12_low_12 rfl (List.mem_of_getElem? (i := 0) rfl) ?_
      refine uu_bipush (v := 32) dX12_low_13 (by decide) ?_
      refine uu_iadd dX12_low_15 ?_
      refine uu_goto (tgt := 20) dX12_low_16 (by decide) ?_
      have hr := Option.some.inj h
      subst hr
      exact uu_iret rfl dX12_low_20
abbrev mX12_isLetter : hM := (yX12_isLetter, cX12_isLetter, 1, (some (.boolean)))
theorem dX12_isLetter_12 : decode cX12_isLetter 12 = .ok (.iload_n 0, 1) := by decide +kernel
theorem dX12_isLetter_13 : decode cX12_isLetter 13 = .ok (.bipush 65, 2) := by decide +kernel
theorem dX12_isLetter_15 : decode cX12_isLetter 15 = .ok (.if_icmp .lt 13, 3) := by decide +kernel
theorem dX12_isLetter_28 : decode cX12_isLetter 28 = .ok (.iconst 0, 1) := by decide +kernel
theorem dX12_isLetter_29 : decode cX12_isLetter 29 = .ok (.ireturn, 1) := by decide +kernel
theorem dX12_isLetter_18 : decode cX12_isLetter 18 = .ok (.iload_n 0, 1) := by decide +kernel
theorem dX12_isLetter_19 : decode cX12_isLetter 19 = .ok (.bipush 90, 2) := by decide +kernel
theorem dX12_isLetter_21 : decode cX12_isLetter 21 = .ok (.if_icmp .gt 7, 3) := by decide +kernel
theorem dX12_isLetter_24 : decode cX12_isLetter 24 = .ok (.iconst 1, 1) := by decide +kernel
theorem dX12_isLetter_25 : decode cX12_isLetter 25 = .ok (.goto 4, 3) := by decide +kernel
theorem dX12_isLetter_0 : decode cX12_isLetter 0 = .ok (.iload_n 0, 1) := by decide +kernel
theorem dX12_isLetter_1 : decode cX12_isLetter 1 = .ok (.bipush 97, 2) := by decide +kernel
theorem dX12_isLetter_3 : decode cX12_isLetter 3 = .ok (.if_icmp .lt 9, 3) := by decide +kernel
theorem dX12_isLetter_6 : decode cX12_isLetter 6 = .ok (.iload_n 0, 1) := by decide +kernel
theorem dX12_isLetter_7 : decode cX12_isLetter 7 = .ok (.bipush 122, 2) := by decide +kernel
theorem dX12_isLetter_9 : decode cX12_isLetter 9 = .ok (.if_icmp .le 15, 3) := by decide +kernel
def fb_X12_isLetter_12  (x0 : Int32) (s : uS) : Option Bool := if x0 < 65 then (some false) else (if (90 : Int32) < x0 then (some false) else (some true))
set_option maxRecDepth 100000 in
set_option maxHeartbeats 4000000 in
theorem xb_X12_isLetter_12 {l : Launch} {D : va_G} {A : Nat → ClassId} {B : Nat} {Z : State → Heap → Prop} {vF : Value} (uk : uK B Z vF)   {x0 : Int32} {s : uS} {r : Bool}  (h : fb_X12_isLetter_12  x0 s = some r) : GU l D A B Z mX12_isLetter 0 (s, some (.int (bI r))) s 12 [(0, .int x0)] [] := by
  unfold fb_X12_isLetter_12 at h
  refine uu_iload_n dX12_isLetter_12 rfl (List.mem_of_getElem? (i := 0) rfl) ?_
  refine uu_bipush (v := 65) dX12_isLetter_13 (by decide) ?_
  refine uu_icmp_lt (tgt := 28) dX12_isLetter_15 (by decide) (fun c1 => ?_) (fun c1 => ?_)
  · replace h := uu_pos c1 h
    refine uu_iconst (v := 0) dX12_isLetter_28 (by decide) ?_
    have hr := Option.some.inj h
    subst hr
    exact uu_zret (x := bI false) rfl (bI_z _) dX12_isLetter_29
  · replace h := uu_neg c1 h
    refine uu_iload_n dX12_isLetter_18 rfl (List.mem_of_getElem? (i := 0) rfl) ?_
    refine uu_bipush (v := 90) dX12_isLetter_19 (by decide) ?_
    refine uu_icmp_gt (tgt := 28) dX12_isLetter_21 (by decide) (fun c2 => ?_) (fun c2 => ?_)
    · replace h := uu_pos c2 h
      refine uu_iconst (v := 0) dX12_isLetter_28 (by decide) ?_
      have hr := Option.some.inj h
      subst hr
      exact uu_zret (x := bI false) rfl (bI_z _) dX12_isLetter_29
    · replace h := uu_neg c2 h
      refine uu_iconst (v := 1) dX12_isLetter_24 (by decide) ?_
      refine uu_goto (tgt := 29) dX12_isLetter_25 (by decide) ?_
      have hr := Option.some.inj h
      subst hr
      exact uu_zret (x := bI true) rfl (bI_z _) dX12_isLetter_29
def fn_X12_isLetter (x0 : Int32) (s : uS) : Option Bool := if x0 < 97 then (fb_X12_isLetter_12 x0 s) else (if x0 ≤ 122 then (some true) else (fb_X12_isLetter_12 x0 s))
set_option maxRecDepth 100000 in
set_option maxHeartbeats 4000000 in
theorem xc_X12_isLetter {l : Launch} {D : va_G} {A : Nat → ClassId} {B : Nat} {Z : State → Heap → Prop} {vF : Value} (uk : uK B Z vF) {x0 : Int32} {s : uS} {r : Bool}  (h : fn_X12_isLetter x0 s = some r) : CU l D A B Z 0 mX12_isLetter s [.int x0] (s, some (.int (bI r))) := by
  unfold fn_X12_isLetter at h
  refine cu_of rfl uk.1.1 (Nat.le_of_ble_eq_true rfl) ?_
  show GU _ _ _ _ _ _ _ _ _ 0 [(0, .int x0)] []
  refine uu_iload_n dX12_isLetter_0 rfl (List.mem_of_getElem? (i := 0) rfl) ?_
  refine uu_bipush (v := 97) dX12_isLetter_1 (by decide) ?_
  refine uu_icmp_lt (tgt := 12) dX12_isLetter_3 (by decide) (fun c1 => ?_) (fun c1 => ?_)
  · replace h := uu_pos c1 h
    exact xb_X12_isLetter_12 uk  h
  · replace h := uu_neg c1 h
    refine uu_iload_n dX12_isLetter_6 rfl (List.mem_of_getElem? (i := 0) rfl) ?_
    refine uu_bipush (v := 122) dX12_isLetter_7 (by decide) ?_
    refine uu_icmp_le (tgt := 24) dX12_isLetter_9 (by decide) (fun c2 => ?_) (fun c2 => ?_)
    · replace h := uu_pos c2 h
      refine uu_iconst (v := 1) dX12_isLetter_24 (by decide) ?_
      refine uu_goto (tgt := 29) dX12_isLetter_25 (by decide) ?_
      have hr := Option.some.inj h
      subst hr
      exact uu_zret (x := bI true) rfl (bI_z _) dX12_isLetter_29
    · replace h := uu_neg c2 h
      exact xb_X12_isLetter_12 uk  h
abbrev mX12_isDigit : hM := (yX12_isDigit, cX12_isDigit, 1, (some (.boolean)))
theorem dX12_isDigit_0 : decode cX12_isDigit 0 = .ok (.iload_n 0, 1) := by decide +kernel
theorem dX12_isDigit_1 : decode cX12_isDigit 1 = .ok (.bipush 48, 2) := by decide +kernel
theorem dX12_isDigit_3 : decode cX12_isDigit 3 = .ok (.if_icmp .lt 13, 3) := by decide +kernel
theorem dX12_isDigit_16 : decode cX12_isDigit 16 = .ok (.iconst 0, 1) := by decide +kernel
theorem dX12_isDigit_17 : decode cX12_isDigit 17 = .ok (.ireturn, 1) := by decide +kernel
theorem dX12_isDigit_6 : decode cX12_isDigit 6 = .ok (.iload_n 0, 1) := by decide +kernel
theorem dX12_isDigit_7 : decode cX12_isDigit 7 = .ok (.bipush 57, 2) := by decide +kernel
theorem dX12_isDigit_9 : decode cX12_isDigit 9 = .ok (.if_icmp .gt 7, 3) := by decide +kernel
theorem dX12_isDigit_12 : decode cX12_isDigit 12 = .ok (.iconst 1, 1) := by decide +kernel
theorem dX12_isDigit_13 : decode cX12_isDigit 13 = .ok (.goto 4, 3) := by decide +kernel
def fn_X12_isDigit (x0 : Int32) (s : uS) : Option Bool := if x0 < 48 then (some false) else (if (57 : Int32) < x0 then (some false) else (some true))
set_option maxRecDepth 100000 in
set_option maxHeartbeats 4000000 in
theorem xc_X12_isDigit {l : Launch} {D : va_G} {A : Nat → ClassId} {B : Nat} {Z : State → Heap → Prop} {vF : Value} (uk : uK B Z vF) {x0 : Int32} {s : uS} {r : Bool}  (h : fn_X12_isDigit x0 s = some r) : CU l D A B Z 0 mX12_isDigit s [.int x0] (s, some (.int (bI r))) := by
  unfold fn_X12_isDigit at h
  refine cu_of rfl uk.1.1 (Nat.le_of_ble_eq_true rfl) ?_
  show GU _ _ _ _ _ _ _ _ _ 0 [(0, .int x0)] []
  refine uu_iload_n dX12_isDigit_0 rfl (List.mem_of_getElem? (i := 0) rfl) ?_
  refine uu_bipush (v := 48) dX12_isDigit_1 (by decide) ?_
  refine uu_icmp_lt (tgt := 16) dX12_isDigit_3 (by decide) (fun c1 => ?_) (fun c1 => ?_)
  · replace h := uu_pos c1 h
    refine uu_iconst (v := 0) dX12_isDigit_16 (by decide) ?_
    have hr := Option.some.inj h
    subst hr
    exact uu_zret (x := bI false) rfl (bI_z _) dX12_isDigit_17
  · replace h := uu_neg c1 h
    refine uu_iload_n dX12_isDigit_6 rfl (List.mem_of_getElem? (i := 0) rfl) ?_
    refine uu_bipush (v := 57) dX12_isDigit_7 (by decide) ?_
    refine uu_icmp_gt (tgt := 16) dX12_isDigit_9 (by decide) (fun c2 => ?_) (fun c2 => ?_)
    · replace h := uu_pos c2 h
      refine uu_iconst (v := 0) dX12_isDigit_16 (by decide) ?_
      have hr := Option.some.inj h
      subst hr
      exact uu_zret (x := bI false) rfl (bI_z _) dX12_isDigit_17
    · replace h := uu_neg c2 h
      refine uu_iconst (v := 1) dX12_isDigit_12 (by decide) ?_
      refine uu_goto (tgt := 17) dX12_isDigit_13 (by decide) ?_
      have hr := Option.some.inj h
      subst hr
      exact uu_zret (x := bI true) rfl (bI_z _) dX12_isDigit_17
abbrev mX12_mailByte : hM := (yX12_mailByte, cX12_mailByte, 2, none)
theorem dX12_mailByte_20 : decode cX12_mailByte 20 = .ok (.aload_n 0, 1) := by decide +kernel
theorem dX12_mailByte_21 : decode cX12_mailByte 21 = .ok (.aload_n 0, 1) := by decide +kernel
theorem fX12_75 : h_fl RX12 75 12 13 RX12 TX12 153 := ⟨rfl, by decide, inX12, h_t11 214 rfl rfl⟩
theorem dX12_mailByte_22 : decode cX12_mailByte 22 = .ok (.getfield 75, 3) := by decide +kernel
theorem cX12_81 : Cond.constant RX12 81 (1000000) ∈ lw_g := h_t8 19 rfl rfl
theorem dX12_mailByte_25 : decode cX12_mailByte 25 = .ok (.ldc 81, 2) := by decide +kernel
theorem dX12_mailByte_27 : decode cX12_mailByte 27 = .ok (.if_icmp .ge 12, 3) := by decide +kernel
theorem dX12_mailByte_39 : decode cX12_mailByte 39 = .ok (.aload_n 0, 1) := by decide +kernel
theorem dX12_mailByte_40 : decode cX12_mailByte 40 = .ok (.getfield 75, 3) := by decide +kernel
theorem dX12_mailByte_43 : decode cX12_mailByte 43 = .ok (.putfield 75, 3) := by decide +kernel
theorem dX12_mailByte_46 : decode cX12_mailByte 46 = .ok (.return_, 1) := by decide +kernel
theorem dX12_mailByte_30 : decode cX12_mailByte 30 = .ok (.aload_n 0, 1) := by decide +kernel
theorem dX12_mailByte_31 : decode cX12_mailByte 31 = .ok (.getfield 75, 3) := by decide +kernel
theorem dX12_mailByte_34 : decode cX12_mailByte 34 = .ok (.iconst 1, 1) := by decide +kernel
theorem dX12_mailByte_35 : decode cX12_mailByte 35 = .ok (.iadd, 1) := by decide +kernel
theorem dX12_mailByte_36 : decode cX12_mailByte 36 = .ok (.goto 7, 3) := by decide +kernel
theorem dX12_mailByte_0 : decode cX12_mailByte 0 = .ok (.aload_n 0, 1) := by decide +kernel
theorem dX12_mailByte_1 : decode cX12_mailByte 1 = .ok (.getfield 75, 3) := by decide +kernel
theorem dX12_mailByte_4 : decode cX12_mailByte 4 = .ok (.sipush 4000, 3) := by decide +kernel
theorem dX12_mailByte_7 : decode cX12_mailByte 7 = .ok (.if_icmp .ge 13, 3) := by decide +kernel
theorem dX12_mailByte_10 : decode cX12_mailByte 10 = .ok (.aload_n 0, 1) := by decide +kernel
theorem dX12_mailByte_11 : decode cX12_mailByte 11 = .ok (.getfield 78, 3) := by decide +kernel
theorem dX12_mailByte_14 : decode cX12_mailByte 14 = .ok (.aload_n 0, 1) := by decide +kernel
theorem dX12_mailByte_15 : decode cX12_mailByte 15 = .ok (.getfield 75, 3) := by decide +kernel
theorem dX12_mailByte_18 : decode cX12_mailByte 18 = .ok (.iload_n 1, 1) := by decide +kernel
theorem dX12_mailByte_19 : decode cX12_mailByte 19 = .ok (.iastore, 1) := by decide +kernel
def fb_X12_mailByte_20   (s : uS) : Option uS := if (1000000 : Int32) ≤ (s.I 1079 13) then (some (wI s 1079 13 (s.I 1079 13))) else (some (wI s 1079 13 ((s.I 1079 13) + 1)))
set_option maxRecDepth 100000 in
set_option maxHeartbeats 4000000 in
theorem xb_X12_mailByte_20 {l : Launch} {D : va_G} {A : Nat → ClassId} {B : Nat} {Z : State → Heap → Prop} {vF : Value} (uk : uK B Z vF)    {s : uS} {r : uS}  (h : fb_X12_mailByte_20   s = some r) : GU l D A B Z mX12_mailByte 0 (r, none) s 20 [(0, .ref (B + 1079))] [] := by
  unfold fb_X12_mailByte_20 at h
  refine uu_aload_n dX12_mailByte_20 rfl (List.mem_of_getElem? (i := 0) rfl) ?_
  refine uu_aload_n dX12_mailByte_21 rfl (List.mem_of_getElem? (i := 0) rfl) ?_
  refine uu_geti (ci := 12) (N := 153) fX12_75 (by decide) so_1079.is (by decide) (by decide) dX12_mailByte_22 ?_
  refine uu_ldc (v := 1000000) cX12_81 dX12_mailByte_25 ?_
  refine uu_icmp_ge (tgt := 39) dX12_mailByte_27 (by decide) (fun c1 => ?_) (fun c1 => ?_)
  · replace h := uu_pos c1 h
    refine uu_aload_n dX12_mailByte_39 rfl (List.mem_of_getElem? (i := 0) rfl) ?_
    refine uu_geti (ci := 12) (N := 153) fX12_75 (by decide) so_1079.is (by decide) (by decide) dX12_mailByte_40 ?_
    refine uu_puti (ft := .int) (ci := 12) (N := 153) fX12_75 ptX12 (Or.inl rfl) (by decide) so_1079.is (by decide) (by decide) (by decide +kernel) rfl rfl dX12_mailByte_43 ?_
    have hr := Option.some.inj h
    subst hr
    exact uu_vret rfl dX12_mailByte_46
  · replace h := uu_neg c1 h
    refine uu_aload_n dX12_mailByte_30 rfl (List.mem_of_getElem? (i := 0) rfl) ?_
    refine uu_geti (ci := 12) (N := 153) fX12_75 (by decide) so_1079.is (by decide) (by decide) dX12_mailByte_31 ?_
    refine uu_iconst (v := 1) dX12_mailByte_34 (by decide) ?_
    refine uu_iadd dX12_mailByte_35 ?_
    refine uu_goto (tgt := 43) dX12_mailByte_36 (by decide) ?_
    refine uu_puti (ft := .int) (ci := 12) (N := 153) fX12_75 ptX12 (Or.inl rfl) (by decide) so_1079.is (by decide) (by decide) (by decide +kernel) rfl rfl dX12_mailByte_43 ?_
    have hr := Option.some.inj h
    subst hr
    exact uu_vret rfl dX12_mailByte_46
def fn_X12_mailByte (x1 : Int32) (s : uS) : Option uS := if (4000 : Int32) ≤ (s.I 1079 13) then (fb_X12_mailByte_20 s) else ((iput 20 s 1087 (s.I 1079 13) x1).bind fun s2 => fb_X12_mailByte_20 s2)
set_option maxRecDepth 100000 in
set_option maxHeartbeats 4000000 in
theorem xc_X12_mailByte {l : Launch} {D : va_G} {A : Nat → ClassId} {B : Nat} {Z : State → Heap → Prop} {vF : Value} (uk : uK B Z vF) {x1 : Int32} {s : uS} {r : uS}  (h : fn_X12_mailByte x1 s = some r) : CU l D A B Z 0 mX12_mailByte s [.ref (B + 1079), .int x1] (r, none) := by
  unfold fn_X12_mailByte at h
  refine cu_of rfl uk.1.1 (Nat.le_of_ble_eq_true rfl) ?_
  show GU _ _ _ _ _ _ _ _ _ 0 [(0, .ref (B + 1079)), (1, .int x1)] []
  refine uu_aload_n dX12_mailByte_0 rfl (List.mem_of_getElem? (i := 0) rfl) ?_
  refine uu_geti (ci := 12) (N := 153) fX12_75 (by decide) so_1079.is (by decide) (by decide) dX12_mailByte_1 ?_
  refine uu_sipush (v := 4000) dX12_mailByte_4 (by decide) ?_
  refine uu_icmp_ge (tgt := 20) dX12_mailByte_7 (by decide) (fun c1 => ?_) (fun c1 => ?_)
  · replace h := uu_pos c1 h
    refine uu_lv [0] (lv' := [(0, .ref (B + 1079))]) rfl ?_
    exact xb_X12_mailByte_20 uk  h
  · replace h := uu_neg c1 h
    refine uu_aload_n dX12_mailByte_10 rfl (List.mem_of_getElem? (i := 0) rfl) ?_
    refine uu_geta (ci := 12) (N := 153) fX12_78 (by decide) so_1079.is (by decide) (c := 1087) (by decide) dX12_mailByte_11 ?_
    refine uu_aload_n dX12_mailByte_14 rfl (List.mem_of_getElem? (i := 0) rfl) ?_
    refine uu_geti (ci := 12) (N := 153) fX12_75 (by decide) so_1079.is (by decide) (by decide) dX12_mailByte_15 ?_
    refine uu_iload_n dX12_mailByte_18 rfl (List.mem_of_getElem? (i := 1) rfl) ?_
    obtain ⟨s2, e3, h⟩ := uu_ob h
    refine uu_iast e3 dX12_mailByte_19 ?_
    refine uu_lv [0] (lv' := [(0, .ref (B + 1079))]) rfl ?_
    exact xb_X12_mailByte_20 uk  h
abbrev mX12_lineEnd : hM := (yX12_lineEnd, cX12_lineEnd, 3, (some (.int)))
theorem dX12_lineEnd_2 : decode cX12_lineEnd 2 = .ok (.aload_n 0, 1) := by decide +kernel
theorem dX12_lineEnd_3 : decode cX12_lineEnd 3 = .ok (.getfield 78, 3) := by decide +kernel
theorem dX12_lineEnd_6 : decode cX12_lineEnd 6 = .ok (.iload_n 2, 1) := by decide +kernel
theorem dX12_lineEnd_7 : decode cX12_lineEnd 7 = .ok (.iaload, 1) := by decide +kernel
theorem dX12_lineEnd_8 : decode cX12_lineEnd 8 = .ok (.bipush 13, 2) := by decide +kernel
theorem dX12_lineEnd_10 : decode cX12_lineEnd 10 = .ok (.if_icmp .ne 26, 3) := by decide +kernel
theorem dX12_lineEnd_36 : decode cX12_lineEnd 36 = .ok (.iload_n 2, 1) := by decide +kernel
theorem dX12_lineEnd_37 : decode cX12_lineEnd 37 = .ok (.iconst 1, 1) := by decide +kernel
theorem dX12_lineEnd_38 : decode cX12_lineEnd 38 = .ok (.iadd, 1) := by decide +kernel
theorem dX12_lineEnd_39 : decode cX12_lineEnd 39 = .ok (.istore_n 2, 1) := by decide +kernel
theorem dX12_lineEnd_40 : decode cX12_lineEnd 40 = .ok (.goto (-38), 3) := by decide +kernel
theorem dX12_lineEnd_13 : decode cX12_lineEnd 13 = .ok (.iload_n 2, 1) := by decide +kernel
theorem dX12_lineEnd_14 : decode cX12_lineEnd 14 = .ok (.iconst 1, 1) := by decide +kernel
theorem dX12_lineEnd_15 : decode cX12_lineEnd 15 = .ok (.iadd, 1) := by decide +kernel
theorem dX12_lineEnd_16 : decode cX12_lineEnd 16 = .ok (.aload_n 0, 1) := by decide +kernel
theorem dX12_lineEnd_17 : decode cX12_lineEnd 17 = .ok (.getfield 75, 3) := by decide +kernel
theorem dX12_lineEnd_20 : decode cX12_lineEnd 20 = .ok (.if_icmp .ge 16, 3) := by decide +kernel
theorem dX12_lineEnd_23 : decode cX12_lineEnd 23 = .ok (.aload_n 0, 1) := by decide +kernel
theorem dX12_lineEnd_24 : decode cX12_lineEnd 24 = .ok (.getfield 78, 3) := by decide +kernel
theorem dX12_lineEnd_27 : decode cX12_lineEnd 27 = .ok (.iload_n 2, 1) := by decide +kernel
theorem dX12_lineEnd_28 : decode cX12_lineEnd 28 = .ok (.iconst 1, 1) := by decide +kernel
theorem dX12_lineEnd_29 : decode cX12_lineEnd 29 = .ok (.iadd, 1) := by decide +kernel
theorem dX12_lineEnd_30 : decode cX12_lineEnd 30 = .ok (.iaload, 1) := by decide +kernel
theorem dX12_lineEnd_31 : decode cX12_lineEnd 31 = .ok (.bipush 10, 2) := by decide +kernel
theorem dX12_lineEnd_33 : decode cX12_lineEnd 33 = .ok (.if_icmp .eq 10, 3) := by decide +kernel
theorem dX12_lineEnd_43 : decode cX12_lineEnd 43 = .ok (.iload_n 2, 1) := by decide +kernel
theorem dX12_lineEnd_44 : decode cX12_lineEnd 44 = .ok (.ireturn, 1) := by decide +kernel
theorem dX12_lineEnd_0 : decode cX12_lineEnd 0 = .ok (.iload_n 1, 1) := by decide +kernel
theorem dX12_lineEnd_1 : decode cX12_lineEnd 1 = .ok (.istore_n 2, 1) := by decide +kernel
def fb_X12_lineEnd_2 (K2 : Int32 → uS → Option Int32) (x2 : Int32) (s : uS) : Option Int32 := (iget 20 s 1087 x2).bind fun v1 => if v1 = 13 then (if (s.I 1079 13) ≤ (x2 + 1) then (K2 (x2 + 1) s) else ((iget 20 s 1087 (x2 + 1)).bind fun v5 => if v5 = 10 then (some x2) else (K2 (x2 + 1) s))) else (K2 (x2 + 1) s)
set_option maxRecDepth 100000 in
set_option maxHeartbeats 4000000 in
theorem xb_X12_lineEnd_2 {l : Launch} {D : va_G} {A : Nat → ClassId} {B : Nat} {Z : State → Heap → Prop} {vF : Value} (uk : uK B Z vF) {K2 : Int32 → uS → Option Int32} (hK2 : ∀ (x2 : Int32)  (s : uS) (r : Int32), K2 x2 s = some r → GU l D A B Z mX12_lineEnd 0 (s, some (.int r)) s 2 [(0, .ref (B + 1079)), (2, .int x2)] []) {x2 : Int32} {s : uS} {r : Int32}  (h : fb_X12_lineEnd_2 K2 x2 s = some r) : GU l D A B Z mX12_lineEnd 0 (s, some (.int r)) s 2 [(0, .ref (B + 1079)), (2, .int x2)] [] := by
  unfold fb_X12_lineEnd_2 at h
  refine uu_aload_n dX12_lineEnd_2 rfl (List.mem_of_getElem? (i := 0) rfl) ?_
  refine uu_geta (ci := 12) (N := 153) fX12_78 (by decide) so_1079.is (by decide) (c := 1087) (by decide) dX12_lineEnd_3 ?_
  refine uu_iload_n dX12_lineEnd_6 rfl (List.mem_of_getElem? (i := 1) rfl) ?_
  obtain ⟨v1, e2, h⟩ := uu_ob h
  refine uu_iald e2 dX12_lineEnd_7 ?_
  refine uu_bipush (v := 13) dX12_lineEnd_8 (by decide) ?_
  refine uu_icmp_ne (tgt := 36) dX12_lineEnd_10 (by decide) (fun c3 => ?_) (fun c3 => ?_)
  · replace h := uu_neg c3 h
    refine uu_iload_n dX12_lineEnd_36 rfl (List.mem_of_getElem? (i := 1) rfl) ?_
    refine uu_iconst (v := 1) dX12_lineEnd_37 (by decide) ?_
    refine uu_iadd dX12_lineEnd_38 ?_
    refine uu_istore_n dX12_lineEnd_39 rfl (by decide) rfl ?_
    refine uu_goto (tgt := 2) dX12_lineEnd_40 (by decide) ?_
    refine uu_lv [1, 0] (lv' := [(0, .ref (B + 1079)), (2, .int (x2 + 1))]) rfl ?_
    exact hK2 (x2 + 1) _ _ h
  · replace h := uu_pos c3 h
    refine uu_iload_n dX12_lineEnd_13 rfl (List.mem_of_getElem? (i := 1) rfl) ?_
    refine uu_iconst (v := 1) dX12_lineEnd_14 (by decide) ?_
    refine uu_iadd dX12_lineEnd_15 ?_
    refine uu_aload_n dX12_lineEnd_16 rfl (List.mem_of_getElem? (i := 0) rfl) ?_
    refine uu_geti (ci := 12) (N := 153) fX12_75 (by decide) so_1079.is (by decide) (by decide) dX12_lineEnd_17 ?_
    refine uu_icmp_ge (tgt := 36) dX12_lineEnd_20 (by decide) (fun c4 => ?_) (fun c4 => ?_)
    · replace h := uu_pos c4 h
      refine uu_iload_n dX12_lineEnd_36 rfl (List.mem_of_getElem? (i := 1) rfl) ?_
      refine uu_iconst (v := 1) dX12_lineEnd_37 (by decide) ?_
      refine uu_iadd dX12_lineEnd_38 ?_
      refine uu_istore_n dX12_lineEnd_39 rfl (by decide) rfl ?_
      refine uu_goto (tgt := 2) dX12_lineEnd_40 (by decide) ?_
      refine uu_lv [1, 0] (lv' := [(0, .ref (B + 1079)), (2, .int (x2 + 1))]) rfl ?_
      exact hK2 (x2 + 1) _ _ h
    · replace h := uu_neg c4 h
      refine uu_aload_n dX12_lineEnd_23 rfl (List.mem_of_getElem? (i := 0) rfl) ?_
      refine uu_geta (ci := 12) (N := 153) fX12_78 (by decide) so_1079.is (by decide) (c := 1087) (by decide) dX12_lineEnd_24 ?_
      refine uu_iload_n dX12_lineEnd_27 rfl (List.mem_of_getElem? (i := 1) rfl) ?_
      refine uu_iconst (v := 1) dX12_lineEnd_28 (by decide) ?_
      refine uu_iadd dX12_lineEnd_29 ?_
      obtain ⟨v5, e6, h⟩ := uu_ob h
      refine uu_iald e6 dX12_lineEnd_30 ?_
      refine uu_bipush (v := 10) dX12_lineEnd_31 (by decide) ?_
      refine uu_icmp_eq (tgt := 43) dX12_lineEnd_33 (by decide) (fun c7 => ?_) (fun c7 => ?_)
      · replace h := uu_pos c7 h
        refine uu_iload_n dX12_lineEnd_43 rfl (List.mem_of_getElem? (i := 1) rfl) ?_
        have hr := Option.some.inj h
        subst hr
        exact uu_iret rfl dX12_lineEnd_44
      · replace h := uu_neg c7 h
        refine uu_iload_n dX12_lineEnd_36 rfl (List.mem_of_getElem? (i := 1) rfl) ?_
        refine uu_iconst (v := 1) dX12_lineEnd_37 (by decide) ?_
        refine uu_iadd dX12_lineEnd_38 ?_
        refine uu_istore_n dX12_lineEnd_39 rfl (by decide) rfl ?_
        refine uu_goto (tgt := 2) dX12_lineEnd_40 (by decide) ?_
        refine uu_lv [1, 0] (lv' := [(0, .ref (B + 1079)), (2, .int (x2 + 1))]) rfl ?_
        exact hK2 (x2 + 1) _ _ h
def fn_X12_lineEnd_2  : Nat → Int32 → uS → Option Int32
  | 0 => fun _ _ => none
  | n + 1 => fb_X12_lineEnd_2 (fn_X12_lineEnd_2  n)
set_option maxRecDepth 100000 in
set_option maxHeartbeats 4000000 in
theorem xn_X12_lineEnd_2 {l : Launch} {D : va_G} {A : Nat → ClassId} {B : Nat} {Z : State → Heap → Prop} {vF : Value} (uk : uK B Z vF)   : ∀ (n : Nat) (x2 : Int32)  (s : uS) (r : Int32), fn_X12_lineEnd_2  n x2 s = some r → GU l D A B Z mX12_lineEnd 0 (s, some (.int r)) s 2 [(0, .ref (B + 1079)), (2, .int x2)] [] := by
  intro n
  induction n with
  | zero => intro x2 s r h
            cases h
  | succ n ih => intro x2 s r h
                 exact xb_X12_lineEnd_2 uk ih  h
def fn_X12_lineEnd (x1 : Int32) (s : uS) : Option Int32 := fn_X12_lineEnd_2 uFu x1 s
set_option maxRecDepth 100000 in
set_option maxHeartbeats 4000000 in
theorem xc_X12_lineEnd {l : Launch} {D : va_G} {A : Nat → ClassId} {B : Nat} {Z : State → Heap → Prop} {vF : Value} (uk : uK B Z vF) {x1 : Int32} {s : uS} {r : Int32}  (h : fn_X12_lineEnd x1 s = some r) : CU l D A B Z 0 mX12_lineEnd s [.ref (B + 1079), .int x1] (s, some (.int r)) := by
  unfold fn_X12_lineEnd at h
  refine cu_of rfl uk.1.1 (Nat.le_of_ble_eq_true rfl) ?_
  show GU _ _ _ _ _ _ _ _ _ 0 [(0, .ref (B + 1079)), (1, .int x1)] []
  refine uu_iload_n dX12_lineEnd_0 rfl (List.mem_of_getElem? (i := 1) rfl) ?_
  refine uu_istore_n dX12_lineEnd_1 rfl (by decide) rfl ?_
  refine uu_lv [1, 0] (lv' := [(0, .ref (B + 1079)), (2, .int x1)]) rfl ?_
  exact xn_X12_lineEnd_2 uk  _ _ _ _ h
abbrev mX12_fieldOf : hM := (yX12_fieldOf, cX12_fieldOf, 6, (some (.int)))
theorem dX12_fieldOf_119 : decode cX12_fieldOf 119 = .ok (.istore 5, 2) := by decide +kernel
theorem dX12_fieldOf_121 : decode cX12_fieldOf 121 = .ok (.iload 5, 2) := by decide +kernel
theorem dX12_fieldOf_123 : decode cX12_fieldOf 123 = .ok (.ifCond .ne 5, 3) := by decide +kernel
theorem dX12_fieldOf_128 : decode cX12_fieldOf 128 = .ok (.aload_n 0, 1) := by decide +kernel
theorem dX12_fieldOf_129 : decode cX12_fieldOf 129 = .ok (.getfield 82, 3) := by decide +kernel
theorem dX12_fieldOf_132 : decode cX12_fieldOf 132 = .ok (.aload_n 0, 1) := by decide +kernel
theorem fX12_85 : h_fl RX12 85 12 14 RX12 TX12 153 := ⟨rfl, by decide, inX12, h_t11 215 rfl rfl⟩
theorem dX12_fieldOf_133 : decode cX12_fieldOf 133 = .ok (.getfield 85, 3) := by decide +kernel
theorem dX12_fieldOf_136 : decode cX12_fieldOf 136 = .ok (.iload_n 1, 1) := by decide +kernel
theorem dX12_fieldOf_137 : decode cX12_fieldOf 137 = .ok (.iastore, 1) := by decide +kernel
theorem dX12_fieldOf_138 : decode cX12_fieldOf 138 = .ok (.aload_n 0, 1) := by decide +kernel
theorem dX12_fieldOf_139 : decode cX12_fieldOf 139 = .ok (.getfield 88, 3) := by decide +kernel
theorem dX12_fieldOf_142 : decode cX12_fieldOf 142 = .ok (.aload_n 0, 1) := by decide +kernel
theorem dX12_fieldOf_143 : decode cX12_fieldOf 143 = .ok (.getfield 85, 3) := by decide +kernel
theorem dX12_fieldOf_146 : decode cX12_fieldOf 146 = .ok (.iload 4, 2) := by decide +kernel
theorem dX12_fieldOf_148 : decode cX12_fieldOf 148 = .ok (.iastore, 1) := by decide +kernel
theorem dX12_fieldOf_149 : decode cX12_fieldOf 149 = .ok (.iload_n 3, 1) := by decide +kernel
theorem dX12_fieldOf_150 : decode cX12_fieldOf 150 = .ok (.iconst 1, 1) := by decide +kernel
theorem dX12_fieldOf_151 : decode cX12_fieldOf 151 = .ok (.iadd, 1) := by decide +kernel
theorem dX12_fieldOf_152 : decode cX12_fieldOf 152 = .ok (.ireturn, 1) := by decide +kernel
theorem dX12_fieldOf_126 : decode cX12_fieldOf 126 = .ok (.iconst (-1), 1) := by decide +kernel
theorem dX12_fieldOf_127 : decode cX12_fieldOf 127 = .ok (.ireturn, 1) := by decide +kernel
theorem dX12_fieldOf_86 : decode cX12_fieldOf 86 = .ok (.iload 4, 2) := by decide +kernel
theorem dX12_fieldOf_88 : decode cX12_fieldOf 88 = .ok (.ifCond .le 30, 3) := by decide +kernel
theorem dX12_fieldOf_118 : decode cX12_fieldOf 118 = .ok (.iconst 0, 1) := by decide +kernel
theorem dX12_fieldOf_91 : decode cX12_fieldOf 91 = .ok (.iload 4, 2) := by decide +kernel
theorem dX12_fieldOf_93 : decode cX12_fieldOf 93 = .ok (.bipush 60, 2) := by decide +kernel
theorem dX12_fieldOf_95 : decode cX12_fieldOf 95 = .ok (.if_icmp .gt 23, 3) := by decide +kernel
theorem dX12_fieldOf_98 : decode cX12_fieldOf 98 = .ok (.iload_n 3, 1) := by decide +kernel
theorem dX12_fieldOf_99 : decode cX12_fieldOf 99 = .ok (.iload_n 2, 1) := by decide +kernel
theorem dX12_fieldOf_100 : decode cX12_fieldOf 100 = .ok (.if_icmp .ge 18, 3) := by decide +kernel
theorem dX12_fieldOf_103 : decode cX12_fieldOf 103 = .ok (.aload_n 0, 1) := by decide +kernel
theorem dX12_fieldOf_104 : decode cX12_fieldOf 104 = .ok (.getfield 78, 3) := by decide +kernel
theorem dX12_fieldOf_107 : decode cX12_fieldOf 107 = .ok (.iload_n 3, 1) := by decide +kernel
theorem dX12_fieldOf_108 : decode cX12_fieldOf 108 = .ok (.iaload, 1) := by decide +kernel
theorem dX12_fieldOf_109 : decode cX12_fieldOf 109 = .ok (.bipush 58, 2) := by decide +kernel
theorem dX12_fieldOf_111 : decode cX12_fieldOf 111 = .ok (.if_icmp .ne 7, 3) := by decide +kernel
theorem dX12_fieldOf_114 : decode cX12_fieldOf 114 = .ok (.iconst 1, 1) := by decide +kernel
theorem dX12_fieldOf_115 : decode cX12_fieldOf 115 = .ok (.goto 4, 3) := by decide +kernel
theorem dX12_fieldOf_52 : decode cX12_fieldOf 52 = .ok (.iload_n 3, 1) := by decide +kernel
theorem dX12_fieldOf_53 : decode cX12_fieldOf 53 = .ok (.iload_n 2, 1) := by decide +kernel
theorem dX12_fieldOf_54 : decode cX12_fieldOf 54 = .ok (.if_icmp .ge 32, 3) := by decide +kernel
theorem dX12_fieldOf_57 : decode cX12_fieldOf 57 = .ok (.aload_n 0, 1) := by decide +kernel
theorem dX12_fieldOf_58 : decode cX12_fieldOf 58 = .ok (.getfield 78, 3) := by decide +kernel
theorem dX12_fieldOf_61 : decode cX12_fieldOf 61 = .ok (.iload_n 3, 1) := by decide +kernel
theorem dX12_fieldOf_62 : decode cX12_fieldOf 62 = .ok (.iaload, 1) := by decide +kernel
theorem dX12_fieldOf_63 : decode cX12_fieldOf 63 = .ok (.bipush 32, 2) := by decide +kernel
theorem dX12_fieldOf_65 : decode cX12_fieldOf 65 = .ok (.if_icmp .eq 14, 3) := by decide +kernel
theorem dX12_fieldOf_79 : decode cX12_fieldOf 79 = .ok (.iload_n 3, 1) := by decide +kernel
theorem dX12_fieldOf_80 : decode cX12_fieldOf 80 = .ok (.iconst 1, 1) := by decide +kernel
theorem dX12_fieldOf_81 : decode cX12_fieldOf 81 = .ok (.iadd, 1) := by decide +kernel
theorem dX12_fieldOf_82 : decode cX12_fieldOf 82 = .ok (.istore_n 3, 1) := by decide +kernel
theorem dX12_fieldOf_83 : decode cX12_fieldOf 83 = .ok (.goto (-31), 3) := by decide +kernel
theorem dX12_fieldOf_68 : decode cX12_fieldOf 68 = .ok (.aload_n 0, 1) := by decide +kernel
theorem dX12_fieldOf_69 : decode cX12_fieldOf 69 = .ok (.getfield 78, 3) := by decide +kernel
theorem dX12_fieldOf_72 : decode cX12_fieldOf 72 = .ok (.iload_n 3, 1) := by decide +kernel
theorem dX12_fieldOf_73 : decode cX12_fieldOf 73 = .ok (.iaload, 1) := by decide +kernel
theorem dX12_fieldOf_74 : decode cX12_fieldOf 74 = .ok (.bipush 9, 2) := by decide +kernel
theorem dX12_fieldOf_76 : decode cX12_fieldOf 76 = .ok (.if_icmp .ne 10, 3) := by decide +kernel
theorem dX12_fieldOf_2 : decode cX12_fieldOf 2 = .ok (.iload_n 3, 1) := by decide +kernel
theorem dX12_fieldOf_3 : decode cX12_fieldOf 3 = .ok (.iload_n 2, 1) := by decide +kernel
theorem dX12_fieldOf_4 : decode cX12_fieldOf 4 = .ok (.if_icmp .ge 43, 3) := by decide +kernel
theorem dX12_fieldOf_47 : decode cX12_fieldOf 47 = .ok (.iload_n 3, 1) := by decide +kernel
theorem dX12_fieldOf_48 : decode cX12_fieldOf 48 = .ok (.iload_n 1, 1) := by decide +kernel
theorem dX12_fieldOf_49 : decode cX12_fieldOf 49 = .ok (.isub, 1) := by decide +kernel
theorem dX12_fieldOf_50 : decode cX12_fieldOf 50 = .ok (.istore 4, 2) := by decide +kernel
theorem dX12_fieldOf_7 : decode cX12_fieldOf 7 = .ok (.aload_n 0, 1) := by decide +kernel
theorem dX12_fieldOf_8 : decode cX12_fieldOf 8 = .ok (.getfield 78, 3) := by decide +kernel
theorem dX12_fieldOf_11 : decode cX12_fieldOf 11 = .ok (.iload_n 3, 1) := by decide +kernel
theorem dX12_fieldOf_12 : decode cX12_fieldOf 12 = .ok (.iaload, 1) := by decide +kernel
theorem dX12_fieldOf_13 : decode cX12_fieldOf 13 = .ok (.bipush 32, 2) := by decide +kernel
theorem dX12_fieldOf_15 : decode cX12_fieldOf 15 = .ok (.if_icmp .le 32, 3) := by decide +kernel
theorem dX12_fieldOf_18 : decode cX12_fieldOf 18 = .ok (.aload_n 0, 1) := by decide +kernel
theorem dX12_fieldOf_19 : decode cX12_fieldOf 19 = .ok (.getfield 78, 3) := by decide +kernel
theorem dX12_fieldOf_22 : decode cX12_fieldOf 22 = .ok (.iload_n 3, 1) := by decide +kernel
theorem dX12_fieldOf_23 : decode cX12_fieldOf 23 = .ok (.iaload, 1) := by decide +kernel
theorem dX12_fieldOf_24 : decode cX12_fieldOf 24 = .ok (.bipush 127, 2) := by decide +kernel
theorem dX12_fieldOf_26 : decode cX12_fieldOf 26 = .ok (.if_icmp .ge 21, 3) := by decide +kernel
theorem dX12_fieldOf_29 : decode cX12_fieldOf 29 = .ok (.aload_n 0, 1) := by decide +kernel
theorem dX12_fieldOf_30 : decode cX12_fieldOf 30 = .ok (.getfield 78, 3) := by decide +kernel
theorem dX12_fieldOf_33 : decode cX12_fieldOf 33 = .ok (.iload_n 3, 1) := by decide +kernel
theorem dX12_fieldOf_34 : decode cX12_fieldOf 34 = .ok (.iaload, 1) := by decide +kernel
theorem dX12_fieldOf_35 : decode cX12_fieldOf 35 = .ok (.bipush 58, 2) := by decide +kernel
theorem dX12_fieldOf_37 : decode cX12_fieldOf 37 = .ok (.if_icmp .eq 10, 3) := by decide +kernel
theorem dX12_fieldOf_40 : decode cX12_fieldOf 40 = .ok (.iload_n 3, 1) := by decide +kernel
theorem dX12_fieldOf_41 : decode cX12_fieldOf 41 = .ok (.iconst 1, 1) := by decide +kernel
theorem dX12_fieldOf_42 : decode cX12_fieldOf 42 = .ok (.iadd, 1) := by decide +kernel
theorem dX12_fieldOf_43 : decode cX12_fieldOf 43 = .ok (.istore_n 3, 1) := by decide +kernel
theorem dX12_fieldOf_44 : decode cX12_fieldOf 44 = .ok (.goto (-42), 3) := by decide +kernel
theorem dX12_fieldOf_0 : decode cX12_fieldOf 0 = .ok (.iload_n 1, 1) := by decide +kernel
theorem dX12_fieldOf_1 : decode cX12_fieldOf 1 = .ok (.istore_n 3, 1) := by decide +kernel
def fb_X12_fieldOf_119  (x1 : Int32) (x3 : Int32) (x4 : Int32) (bs0 : Bool) (s : uS) : Option (uS × Int32) := if bs0 = true then ((iput 20 s 1088 (s.I 1079 14) x1).bind fun s2 => (iput 20 s2 1089 (s2.I 1079 14) x4).bind fun s4 => some (s4, x3 + 1)) else (some (s, (-1 : Int32)))
set_option maxRecDepth 100000 in
set_option maxHeartbeats 4000000 in
theorem xb_X12_fieldOf_119 {l : Launch} {D : va_G} {A : Nat → ClassId} {B : Nat} {Z : State → Heap → Prop} {vF : Value} (uk : uK B Z vF)   {x1 : Int32} {x3 : Int32} {x4 : Int32} {bs0 : Bool} {s : uS} {r : (uS × Int32)}  (h : fb_X12_fieldOf_119  x1 x3 x4 bs0 s = some r) : GU l D A B Z mX12_fieldOf 0 (r.1, some (.int r.2)) s 119 [(0, .ref (B + 1079)), (1, .int x1), (3, .int x3), (4, .int x4)] [.int (bI bs0)] := by
  unfold fb_X12_fieldOf_119 at h
  refine uu_istore dX12_fieldOf_119 (by decide) rfl ?_
  refine uu_iload dX12_fieldOf_121 (List.mem_of_getElem? (i := 0) rfl) ?_
  refine uu_ifb_ne (tgt := 128) dX12_fieldOf_123 (by decide) (fun c1 => ?_) (fun c1 => ?_)
  · replace h := uu_pos c1 h
    refine uu_aload_n dX12_fieldOf_128 rfl (List.mem_of_getElem? (i := 1) rfl) ?_
    refine uu_geta (ci := 12) (N := 153) fX12_82 (by decide) so_1079.is (by decide) (c := 1088) (by decide) dX12_fieldOf_129 ?_
    refine uu_aload_n dX12_fieldOf_132 rfl (List.mem_of_getElem? (i := 1) rfl) ?_
    refine uu_geti (ci := 12) (N := 153) fX12_85 (by decide) so_1079.is (by decide) (by decide) dX12_fieldOf_133 ?_
    refine uu_iload_n dX12_fieldOf_136 rfl (List.mem_of_getElem? (i := 2) rfl) ?_
    obtain ⟨s2, e3, h⟩ := uu_ob h
    refine uu_iast e3 dX12_fieldOf_137 ?_
    refine uu_aload_n dX12_fieldOf_138 rfl (List.mem_of_getElem? (i := 1) rfl) ?_
    refine uu_geta (ci := 12) (N := 153) fX12_88 (by decide) so_1079.is (by decide) (c := 1089) (by decide) dX12_fieldOf_139 ?_
    refine uu_aload_n dX12_fieldOf_142 rfl (List.mem_of_getElem? (i := 1) rfl) ?_
    refine uu_geti (ci := 12) (N := 153) fX12_85 (by decide) so_1079.is (by decide) (by decide) dX12_fieldOf_143 ?_
    refine uu_iload dX12_fieldOf_146 (List.mem_of_getElem? (i := 4) rfl) ?_
    obtain ⟨s4, e5, h⟩ := uu_ob h
    refine uu_iast e5 dX12_fieldOf_148 ?_
    refine uu_iload_n dX12_fieldOf_149 rfl (List.mem_of_getElem? (i := 3) rfl) ?_
    refine uu_iconst (v := 1) dX12_fieldOf_150 (by decide) ?_
    refine uu_iadd dX12_fieldOf_151 ?_
    have hr := Option.some.inj h
    subst hr
    exact uu_iret rfl dX12_fieldOf_152
  · replace h := uu_neg c1 h
    refine uu_iconst (v := -1) dX12_fieldOf_126 (by decide) ?_
    have hr := Option.some.inj h
    subst hr
    exact uu_iret rfl dX12_fieldOf_127
def fb_X12_fieldOf_86  (x1 : Int32) (x2 : Int32) (x3 : Int32) (x4 : Int32) (s : uS) : Option (uS × Int32) := if x4 ≤ 0 then (fb_X12_fieldOf_119 x1 x3 x4 false s) else (if (60 : Int32) < x4 then (fb_X12_fieldOf_119 x1 x3 x4 false s) else (if x2 ≤ x3 then (fb_X12_fieldOf_119 x1 x3 x4 false s) else ((iget 20 s 1087 x3).bind fun v4 => if v4 = 58 then (fb_X12_fieldOf_119 x1 x3 x4 true s) else (fb_X12_fieldOf_119 x1 x3 x4 false s))))
set_option maxRecDepth 100000 in
set_option maxHeartbeats 4000000 in
theorem xb_X12_fieldOf_86 {l : Launch} {D : va_G} {A : Nat → ClassId} {B : Nat} {Z : State → Heap → Prop} {vF : Value} (uk : uK B Z vF)   {x1 : Int32} {x2 : Int32} {x3 : Int32} {x4 : Int32} {s : uS} {r : (uS × Int32)}  (h : fb_X12_fieldOf_86  x1 x2 x3 x4 s = some r) : GU l D A B Z mX12_fieldOf 0 (r.1, some (.int r.2)) s 86 [(0, .ref (B + 1079)), (1, .int x1), (2, .int x2), (3, .int x3), (4, .int x4)] [] := by
  unfold fb_X12_fieldOf_86 at h
  refine uu_iload dX12_fieldOf_86 (List.mem_of_getElem? (i := 4) rfl) ?_
  refine uu_if_le (tgt := 118) dX12_fieldOf_88 (by decide) (fun c1 => ?_) (fun c1 => ?_)
  · replace h := uu_pos c1 h
    refine uu_iconst (v := 0) dX12_fieldOf_118 (by decide) ?_
    refine uu_lv [0, 1, 3, 4] (lv' := [(0, .ref (B + 1079)), (1, .int x1), (3, .int x3), (4, .int x4)]) rfl ?_
    exact xb_X12_fieldOf_119 uk  h
  · replace h := uu_neg c1 h
    refine uu_iload dX12_fieldOf_91 (List.mem_of_getElem? (i := 4) rfl) ?_
    refine uu_bipush (v := 60) dX12_fieldOf_93 (by decide) ?_
    refine uu_icmp_gt (tgt := 118) dX12_fieldOf_95 (by decide) (fun c2 => ?_) (fun c2 => ?_)
    · replace h := uu_pos c2 h
      refine uu_iconst (v := 0) dX12_fieldOf_118 (by decide) ?_
      refine uu_lv [0, 1, 3, 4] (lv' := [(0, .ref (B + 1079)), (1, .int x1), (3, .int x3), (4, .int x4)]) rfl ?_
      exact xb_X12_fieldOf_119 uk  h
    · replace h := uu_neg c2 h
      refine uu_iload_n dX12_fieldOf_98 rfl (List.mem_of_getElem? (i := 3) rfl) ?_
      refine uu_iload_n dX12_fieldOf_99 rfl (List.mem_of_getElem? (i := 2) rfl) ?_
      refine uu_icmp_ge (tgt := 118) dX12_fieldOf_100 (by decide) (fun c3 => ?_) (fun c3 => ?_)
      · replace h := uu_pos c3 h
        refine uu_iconst (v := 0) dX12_fieldOf_118 (by decide) ?_
        refine uu_lv [0, 1, 3, 4] (lv' := [(0, .ref (B + 1079)), (1, .int x1), (3, .int x3), (4, .int x4)]) rfl ?_
        exact xb_X12_fieldOf_119 uk  h
      · replace h := uu_neg c3 h
        refine uu_aload_n dX12_fieldOf_103 rfl (List.mem_of_getElem? (i := 0) rfl) ?_
        refine uu_geta (ci := 12) (N := 153) fX12_78 (by decide) so_1079.is (by decide) (c := 1087) (by decide) dX12_fieldOf_104 ?_
        refine uu_iload_n dX12_fieldOf_107 rfl (List.mem_of_getElem? (i := 3) rfl) ?_
        obtain ⟨v4, e5, h⟩ := uu_ob h
        refine uu_iald e5 dX12_fieldOf_108 ?_
        refine uu_bipush (v := 58) dX12_fieldOf_109 (by decide) ?_
        refine uu_icmp_ne (tgt := 118) dX12_fieldOf_111 (by decide) (fun c6 => ?_) (fun c6 => ?_)
        · replace h := uu_neg c6 h
          refine uu_iconst (v := 0) dX12_fieldOf_118 (by decide) ?_
          refine uu_lv [0, 1, 3, 4] (lv' := [(0, .ref (B + 1079)), (1, .int x1), (3, .int x3), (4, .int x4)]) rfl ?_
          exact xb_X12_fieldOf_119 uk  h
        · replace h := uu_pos c6 h
          refine uu_iconst (v := 1) dX12_fieldOf_114 (by decide) ?_
          refine uu_goto (tgt := 119) dX12_fieldOf_115 (by decide) ?_
          refine uu_lv [0, 1, 3, 4] (lv' := [(0, .ref (B + 1079)), (1, .int x1), (3, .int x3), (4, .int x4)]) rfl ?_
          exact xb_X12_fieldOf_119 uk  h
def fb_X12_fieldOf_52 (K52 : Int32 → Int32 → Int32 → Int32 → uS → Option (uS × Int32)) (x1 : Int32) (x2 : Int32) (x3 : Int32) (x4 : Int32) (s : uS) : Option (uS × Int32) := if x2 ≤ x3 then (fb_X12_fieldOf_86 x1 x2 x3 x4 s) else ((iget 20 s 1087 x3).bind fun v2 => if v2 = 32 then (K52 x1 x2 (x3 + 1) x4 s) else ((iget 20 s 1087 x3).bind fun v5 => if v5 = 9 then (K52 x1 x2 (x3 + 1) x4 s) else (fb_X12_fieldOf_86 x1 x2 x3 x4 s)))
set_option maxRecDepth 100000 in
set_option maxHeartbeats 4000000 in
theorem xb_X12_fieldOf_52 {l : Launch} {D : va_G} {A : Nat → ClassId} {B : Nat} {Z : State → Heap → Prop} {vF : Value} (uk : uK B Z vF) {K52 : Int32 → Int32 → Int32 → Int32 → uS → Option (uS × Int32)} (hK52 : ∀ (x1 : Int32) (x2 : Int32) (x3 : Int32) (x4 : Int32)  (s : uS) (r : (uS × Int32)), K52 x1 x2 x3 x4 s = some r → GU l D A B Z mX12_fieldOf 0 (r.1, some (.int r.2)) s 52 [(0, .ref (B + 1079)), (1, .int x1), (2, .int x2), (3, .int x3), (4, .int x4)] []) {x1 : Int32} {x2 : Int32} {x3 : Int32} {x4 : Int32} {s : uS} {r : (uS × Int32)}  (h : fb_X12_fieldOf_52 K52 x1 x2 x3 x4 s = some r) : GU l D A B Z mX12_fieldOf 0 (r.1, some (.int r.2)) s 52 [(0, .ref (B + 1079)), (1, .int x1), (2, .int x2), (3, .int x3), (4, .int x4)] [] := by
  unfold fb_X12_fieldOf_52 at h
  refine uu_iload_n dX12_fieldOf_52 rfl (List.mem_of_getElem? (i := 3) rfl) ?_
  refine uu_iload_n dX12_fieldOf_53 rfl (List.mem_of_getElem? (i := 2) rfl) ?_
  refine uu_icmp_ge (tgt := 86) dX12_fieldOf_54 (by decide) (fun c1 => ?_) (fun c1 => ?_)
  · replace h := uu_pos c1 h
    exact xb_X12_fieldOf_86 uk  h
  · replace h := uu_neg c1 h
    refine uu_aload_n dX12_fieldOf_57 rfl (List.mem_of_getElem? (i := 0) rfl) ?_
    refine uu_geta (ci := 12) (N := 153) fX12_78 (by decide) so_1079.is (by decide) (c := 1087) (by decide) dX12_fieldOf_58 ?_
    refine uu_iload_n dX12_fieldOf_61 rfl (List.mem_of_getElem? (i := 3) rfl) ?_
    obtain ⟨v2, e3, h⟩ := uu_ob h
    refine uu_iald e3 dX12_fieldOf_62 ?_
    refine uu_bipush (v := 32) dX12_fieldOf_63 (by decide) ?_
    refine uu_icmp_eq (tgt := 79) dX12_fieldOf_65 (by decide) (fun c4 => ?_) (fun c4 => ?_)
    · replace h := uu_pos c4 h
      refine uu_iload_n dX12_fieldOf_79 rfl (List.mem_of_getElem? (i := 3) rfl) ?_
      refine uu_iconst (v := 1) dX12_fieldOf_80 (by decide) ?_
      refine uu_iadd dX12_fieldOf_81 ?_
      refine uu_istore_n dX12_fieldOf_82 rfl (by decide) rfl ?_
      refine uu_goto (tgt := 52) dX12_fieldOf_83 (by decide) ?_
      refine uu_lv [1, 2, 3, 0, 4] (lv' := [(0, .ref (B + 1079)), (1, .int x1), (2, .int x2), (3, .int (x3 + 1)), (4, .int x4)]) rfl ?_
      exact hK52 x1 x2 (x3 + 1) x4 _ _ h
    · replace h := uu_neg c4 h
      refine uu_aload_n dX12_fieldOf_68 rfl (List.mem_of_getElem? (i := 0) rfl) ?_
      refine uu_geta (ci := 12) (N := 153) fX12_78 (by decide) so_1079.is (by decide) (c := 1087) (by decide) dX12_fieldOf_69 ?_
      refine uu_iload_n dX12_fieldOf_72 rfl (List.mem_of_getElem? (i := 3) rfl) ?_
      obtain ⟨v5, e6, h⟩ := uu_ob h
      refine uu_iald e6 dX12_fieldOf_73 ?_
      refine uu_bipush (v := 9) dX12_fieldOf_74 (by decide) ?_
      refine uu_icmp_ne (tgt := 86) dX12_fieldOf_76 (by decide) (fun c7 => ?_) (fun c7 => ?_)
      · replace h := uu_neg c7 h
        exact xb_X12_fieldOf_86 uk  h
      · replace h := uu_pos c7 h
        refine uu_iload_n dX12_fieldOf_79 rfl (List.mem_of_getElem? (i := 3) rfl) ?_
        refine uu_iconst (v := 1) dX12_fieldOf_80 (by decide) ?_
        refine uu_iadd dX12_fieldOf_81 ?_
        refine uu_istore_n dX12_fieldOf_82 rfl (by decide) rfl ?_
        refine uu_goto (tgt := 52) dX12_fieldOf_83 (by decide) ?_
        refine uu_lv [1, 2, 3, 0, 4] (lv' := [(0, .ref (B + 1079)), (1, .int x1), (2, .int x2), (3, .int (x3 + 1)), (4, .int x4)]) rfl ?_
        exact hK52 x1 x2 (x3 + 1) x4 _ _ h
def fn_X12_fieldOf_52  : Nat → Int32 → Int32 → Int32 → Int32 → uS → Option (uS × Int32)
  | 0 => fun _ _ _ _ _ => none
  | n + 1 => fb_X12_fieldOf_52 (fn_X12_fieldOf_52  n)
set_option maxRecDepth 100000 in
set_option maxHeartbeats 4000000 in
theorem xn_X12_fieldOf_52 {l : Launch} {D : va_G} {A : Nat → ClassId} {B : Nat} {Z : State → Heap → Prop} {vF : Value} (uk : uK B Z vF)   : ∀ (n : Nat) (x1 : Int32) (x2 : Int32) (x3 : Int32) (x4 : Int32)  (s : uS) (r : (uS × Int32)), fn_X12_fieldOf_52  n x1 x2 x3 x4 s = some r → GU l D A B Z mX12_fieldOf 0 (r.1, some (.int r.2)) s 52 [(0, .ref (B + 1079)), (1, .int x1), (2, .int x2), (3, .int x3), (4, .int x4)] [] := by
  intro n
  induction n with
  | zero => intro x1 x2 x3 x4 s r h
            cases h
  | succ n ih => intro x1 x2 x3 x4 s r h
                 exact xb_X12_fieldOf_52 uk ih  h
def fb_X12_fieldOf_2 (K2 : Int32 → Int32 → Int32 → uS → Option (uS × Int32)) (x1 : Int32) (x2 : Int32) (x3 : Int32) (s : uS) : Option (uS × Int32) := if x2 ≤ x3 then (fn_X12_fieldOf_52 uFu x1 x2 x3 (x3 - x1) s) else ((iget 20 s 1087 x3).bind fun v2 => if v2 ≤ 32 then (fn_X12_fieldOf_52 uFu x1 x2 x3 (x3 - x1) s) else ((iget 20 s 1087 x3).bind fun v5 => if (127 : Int32) ≤ v5 then (fn_X12_fieldOf_52 uFu x1 x2 x3 (x3 - x1) s) else ((iget 20 s 1087 x3).bind fun v8 => if v8 = 58 then (fn_X12_fieldOf_52 uFu x1 x2 x3 (x3 - x1) s) else (K2 x1 x2 (x3 + 1) s))))
set_option maxRecDepth 100000 in
set_option maxHeartbeats 4000000 in
theorem xb_X12_fieldOf_2 {l : Launch} {D : va_G} {A : Nat → ClassId} {B : Nat} {Z : State → Heap → Prop} {vF : Value} (uk : uK B Z vF) {K2 : Int32 → Int32 → Int32 → uS → Option (uS × Int32)} (hK2 : ∀ (x1 : Int32) (x2 : Int32) (x3 : Int32)  (s : uS) (r : (uS × Int32)), K2 x1 x2 x3 s = some r → GU l D A B Z mX12_fieldOf 0 (r.1, some (.int r.2)) s 2 [(0, .ref (B + 1079)), (1, .int x1), (2, .int x2), (3, .int x3)] []) {x1 : Int32} {x2 : Int32} {x3 : Int32} {s : uS} {r : (uS × Int32)}  (h : fb_X12_fieldOf_2 K2 x1 x2 x3 s = some r) : GU l D A B Z mX12_fieldOf 0 (r.1, some (.int r.2)) s 2 [(0, .ref (B + 1079)), (1, .int x1), (2, .int x2), (3, .int x3)] [] := by
  unfold fb_X12_fieldOf_2 at h
  refine uu_iload_n dX12_fieldOf_2 rfl (List.mem_of_getElem? (i := 3) rfl) ?_
  refine uu_iload_n dX12_fieldOf_3 rfl (List.mem_of_getElem? (i := 2) rfl) ?_
  refine uu_icmp_ge (tgt := 47) dX12_fieldOf_4 (by decide) (fun c1 => ?_) (fun c1 => ?_)
  · replace h := uu_pos c1 h
    refine uu_iload_n dX12_fieldOf_47 rfl (List.mem_of_getElem? (i := 3) rfl) ?_
    refine uu_iload_n dX12_fieldOf_48 rfl (List.mem_of_getElem? (i := 1) rfl) ?_
    refine uu_isub dX12_fieldOf_49 ?_
    refine uu_istore dX12_fieldOf_50 (by decide) rfl ?_
    refine uu_lv [1, 2, 3, 4, 0] (lv' := [(0, .ref (B + 1079)), (1, .int x1), (2, .int x2), (3, .int x3), (4, .int (x3 - x1))]) rfl ?_
    exact xn_X12_fieldOf_52 uk  _ _ _ _ _ _ _ h
  · replace h := uu_neg c1 h
    refine uu_aload_n dX12_fieldOf_7 rfl (List.mem_of_getElem? (i := 0) rfl) ?_
    refine uu_geta (ci := 12) (N := 153) fX12_78 (by decide) so_1079.is (by decide) (c := 1087) (by decide) dX12_fieldOf_8 ?_
    refine uu_iload_n dX12_fieldOf_11 rfl (List.mem_of_getElem? (i := 3) rfl) ?_
    obtain ⟨v2, e3, h⟩ := uu_ob h
    refine uu_iald e3 dX12_fieldOf_12 ?_
    refine uu_bipush (v := 32) dX12_fieldOf_13 (by decide) ?_
    refine uu_icmp_le (tgt := 47) dX12_fieldOf_15 (by decide) (fun c4 => ?_) (fun c4 => ?_)
    · replace h := uu_pos c4 h
      refine uu_iload_n dX12_fieldOf_47 rfl (List.mem_of_getElem? (i := 3) rfl) ?_
      refine uu_iload_n dX12_fieldOf_48 rfl (List.mem_of_getElem? (i := 1) rfl) ?_
      refine uu_isub dX12_fieldOf_49 ?_
      refine uu_istore dX12_fieldOf_50 (by decide) rfl ?_
      refine uu_lv [1, 2, 3, 4, 0] (lv' := [(0, .ref (B + 1079)), (1, .int x1), (2, .int x2), (3, .int x3), (4, .int (x3 - x1))]) rfl ?_
      exact xn_X12_fieldOf_52 uk  _ _ _ _ _ _ _ h
    · replace h := uu_neg c4 h
      refine uu_aload_n dX12_fieldOf_18 rfl (List.mem_of_getElem? (i := 0) rfl) ?_
      refine uu_geta (ci := 12) (N := 153) fX12_78 (by decide) so_1079.is (by decide) (c := 1087) (by decide) dX12_fieldOf_19 ?_
      refine uu_iload_n dX12_fieldOf_22 rfl (List.mem_of_getElem? (i := 3) rfl) ?_
      obtain ⟨v5, e6, h⟩ := uu_ob h
      refine uu_iald e6 dX12_fieldOf_23 ?_
      refine uu_bipush (v := 127) dX12_fieldOf_24 (by decide) ?_
      refine uu_icmp_ge (tgt := 47) dX12_fieldOf_26 (by decide) (fun c7 => ?_) (fun c7 => ?_)
      · replace h := uu_pos c7 h
        refine uu_iload_n dX12_fieldOf_47 rfl (List.mem_of_getElem? (i := 3) rfl) ?_
        refine uu_iload_n dX12_fieldOf_48 rfl (List.mem_of_getElem? (i := 1) rfl) ?_
        refine uu_isub dX12_fieldOf_49 ?_
        refine uu_istore dX12_fieldOf_50 (by decide) rfl ?_
        refine uu_lv [1, 2, 3, 4, 0] (lv' := [(0, .ref (B + 1079)), (1, .int x1), (2, .int x2), (3, .int x3), (4, .int (x3 - x1))]) rfl ?_
        exact xn_X12_fieldOf_52 uk  _ _ _ _ _ _ _ h
      · replace h := uu_neg c7 h
        refine uu_aload_n dX12_fieldOf_29 rfl (List.mem_of_getElem? (i := 0) rfl) ?_
        refine uu_geta (ci := 12) (N := 153) fX12_78 (by decide) so_1079.is (by decide) (c := 1087) (by decide) dX12_fieldOf_30 ?_
        refine uu_iload_n dX12_fieldOf_33 rfl (List.mem_of_getElem? (i := 3) rfl) ?_
        obtain ⟨v8, e9, h⟩ := uu_ob h
        refine uu_iald e9 dX12_fieldOf_34 ?_
        refine uu_bipush (v := 58) dX12_fieldOf_35 (by decide) ?_
        refine uu_icmp_eq (tgt := 47) dX12_fieldOf_37 (by decide) (fun c10 => ?_) (fun c10 => ?_)
        · replace h := uu_pos c10 h
          refine uu_iload_n dX12_fieldOf_47 rfl (List.mem_of_getElem? (i := 3) rfl) ?_
          refine uu_iload_n dX12_fieldOf_48 rfl (List.mem_of_getElem? (i := 1) rfl) ?_
          refine uu_isub dX12_fieldOf_49 ?_
          refine uu_istore dX12_fieldOf_50 (by decide) rfl ?_
          refine uu_lv [1, 2, 3, 4, 0] (lv' := [(0, .ref (B + 1079)), (1, .int x1), (2, .int x2), (3, .int x3), (4, .int (x3 - x1))]) rfl ?_
          exact xn_X12_fieldOf_52 uk  _ _ _ _ _ _ _ h
        · replace h := uu_neg c10 h
          refine uu_iload_n dX12_fieldOf_40 rfl (List.mem_of_getElem? (i := 3) rfl) ?_
          refine uu_iconst (v := 1) dX12_fieldOf_41 (by decide) ?_
          refine uu_iadd dX12_fieldOf_42 ?_
          refine uu_istore_n dX12_fieldOf_43 rfl (by decide) rfl ?_
          refine uu_goto (tgt := 2) dX12_fieldOf_44 (by decide) ?_
          refine uu_lv [1, 2, 3, 0] (lv' := [(0, .ref (B + 1079)), (1, .int x1), (2, .int x2), (3, .int (x3 + 1))]) rfl ?_
          exact hK2 x1 x2 (x3 + 1) _ _ h
def fn_X12_fieldOf_2  : Nat → Int32 → Int32 → Int32 → uS → Option (uS × Int32)
  | 0 => fun _ _ _ _ => none
  | n + 1 => fb_X12_fieldOf_2 (fn_X12_fieldOf_2  n)
set_option maxRecDepth 100000 in
set_option maxHeartbeats 4000000 in
theorem xn_X12_fieldOf_2 {l : Launch} {D : va_G} {A : Nat → ClassId} {B : Nat} {Z : State → Heap → Prop} {vF : Value} (uk : uK B Z vF)   : ∀ (n : Nat) (x1 : Int32) (x2 : Int32) (x3 : Int32)  (s : uS) (r : (uS × Int32)), fn_X12_fieldOf_2  n x1 x2 x3 s = some r → GU l D A B Z mX12_fieldOf 0 (r.1, some (.int r.2)) s 2 [(0, .ref (B + 1079)), (1, .int x1), (2, .int x2), (3, .int x3)] [] := by
  intro n
  induction n with
  | zero => intro x1 x2 x3 s r h
            cases h
  | succ n ih => intro x1 x2 x3 s r h
                 exact xb_X12_fieldOf_2 uk ih  h
def fn_X12_fieldOf (x1 : Int32) (x2 : Int32) (s : uS) : Option (uS × Int32) := fn_X12_fieldOf_2 uFu x1 x2 x1 s
set_option maxRecDepth 100000 in
set_option maxHeartbeats 4000000 in
theorem xc_X12_fieldOf {l : Launch} {D : va_G} {A : Nat → ClassId} {B : Nat} {Z : State → Heap → Prop} {vF : Value} (uk : uK B Z vF) {x1 : Int32} {x2 : Int32} {s : uS} {r : (uS × Int32)}  (h : fn_X12_fieldOf x1 x2 s = some r) : CU l D A B Z 0 mX12_fieldOf s [.ref (B + 1079), .int x1, .int x2] (r.1, some (.int r.2)) := by
  unfold fn_X12_fieldOf at h
  refine cu_of rfl uk.1.1 (Nat.le_of_ble_eq_true rfl) ?_
  show GU _ _ _ _ _ _ _ _ _ 0 [(0, .ref (B + 1079)), (1, .int x1), (2, .int x2)] []
  refine uu_iload_n dX12_fieldOf_0 rfl (List.mem_of_getElem? (i := 1) rfl) ?_
  refine uu_istore_n dX12_fieldOf_1 rfl (by decide) rfl ?_
  refine uu_lv [1, 2, 3, 0] (lv' := [(0, .ref (B + 1079)), (1, .int x1), (2, .int x2), (3, .int x1)]) rfl ?_
  exact xn_X12_fieldOf_2 uk  _ _ _ _ _ _ h
