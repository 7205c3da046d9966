abbrev mX12_read : hM := (yX12_read, cX12_read, 1, (some (.int)))
theorem dX12_read_49 : decode cX12_read 49 = .ok (.aload_n 0, 1) := by decide +kernel
theorem dX12_read_50 : decode cX12_read 50 = .ok (.ldc_w 364, 3) := by decide +kernel
theorem dX12_read_53 : decode cX12_read 53 = .ok (.invokevirtual 366, 3) := by decide +kernel
theorem dX12_read_56 : decode cX12_read 56 = .ok (.ifCond .eq 20, 3) := by decide +kernel
theorem dX12_read_76 : decode cX12_read 76 = .ok (.aload_n 0, 1) := by decide +kernel
theorem dX12_read_77 : decode cX12_read 77 = .ok (.aload_n 0, 1) := by decide +kernel
theorem dX12_read_78 : decode cX12_read 78 = .ok (.iconst 1, 1) := by decide +kernel
theorem dX12_read_79 : decode cX12_read 79 = .ok (.invokevirtual 334, 3) := by decide +kernel
theorem fX12_372 : h_fl RX12 372 12 67 RX12 TX12 153 := ⟨rfl, by decide, inX12, h_t12 28 rfl rfl⟩
theorem dX12_read_82 : decode cX12_read 82 = .ok (.putfield 372, 3) := by decide +kernel
theorem dX12_read_85 : decode cX12_read 85 = .ok (.aload_n 0, 1) := by decide +kernel
theorem dX12_read_86 : decode cX12_read 86 = .ok (.aload_n 0, 1) := by decide +kernel
theorem dX12_read_87 : decode cX12_read 87 = .ok (.getfield 372, 3) := by decide +kernel
theorem dX12_read_90 : decode cX12_read 90 = .ok (.invokevirtual 375, 3) := by decide +kernel
theorem dX12_read_93 : decode cX12_read 93 = .ok (.aload_n 0, 1) := by decide +kernel
theorem dX12_read_94 : decode cX12_read 94 = .ok (.getfield 193, 3) := by decide +kernel
theorem dX12_read_97 : decode cX12_read 97 = .ok (.ifCond .ge 18, 3) := by decide +kernel
theorem dX12_read_115 : decode cX12_read 115 = .ok (.aload_n 0, 1) := by decide +kernel
theorem dX12_read_116 : decode cX12_read 116 = .ok (.getfield 193, 3) := by decide +kernel
theorem dX12_read_119 : decode cX12_read 119 = .ok (.ireturn, 1) := by decide +kernel
theorem dX12_read_100 : decode cX12_read 100 = .ok (.aload_n 0, 1) := by decide +kernel
theorem dX12_read_101 : decode cX12_read 101 = .ok (.getfield 205, 3) := by decide +kernel
theorem dX12_read_104 : decode cX12_read 104 = .ok (.ifCond .eq 11, 3) := by decide +kernel
theorem dX12_read_107 : decode cX12_read 107 = .ok (.aload_n 0, 1) := by decide +kernel
theorem dX12_read_108 : decode cX12_read 108 = .ok (.aload_n 0, 1) := by decide +kernel
theorem dX12_read_109 : decode cX12_read 109 = .ok (.getfield 199, 3) := by decide +kernel
theorem dX12_read_112 : decode cX12_read 112 = .ok (.invokevirtual 208, 3) := by decide +kernel
theorem dX12_read_59 : decode cX12_read 59 = .ok (.aload_n 0, 1) := by decide +kernel
theorem dX12_read_60 : decode cX12_read 60 = .ok (.invokevirtual 279, 3) := by decide +kernel
theorem dX12_read_63 : decode cX12_read 63 = .ok (.aload_n 0, 1) := by decide +kernel
theorem kX12_requires : h_ml mX12_requires 0 := ⟨h_t8 143 rfl rfl, h_t1 16 rfl rfl, ⟨by decide, by decide, by decide +kernel⟩, by decide⟩
theorem lX12_369 : Cond.methodLink RX12 369 mX12_requires.1 ∈ lw_g := h_t8 140 rfl rfl
theorem sX12_requires : Cond.instanceMethod mX12_requires.1 ∈ lw_g ∧ Cond.selects mX12_requires.1.cls mX12_requires.1 mX12_requires.1 ∈ lw_g := ⟨h_t8 142 rfl rfl, h_ins 134 rfl⟩
theorem dX12_read_64 : decode cX12_read 64 = .ok (.invokevirtual 369, 3) := by decide +kernel
theorem dX12_read_67 : decode cX12_read 67 = .ok (.aload_n 0, 1) := by decide +kernel
theorem dX12_read_68 : decode cX12_read 68 = .ok (.bipush 59, 2) := by decide +kernel
theorem dX12_read_70 : decode cX12_read 70 = .ok (.invokevirtual 355, 3) := by decide +kernel
theorem dX12_read_73 : decode cX12_read 73 = .ok (.goto (-24), 3) := by decide +kernel
theorem dX12_read_0 : decode cX12_read 0 = .ok (.aload_n 0, 1) := by decide +kernel
theorem dX12_read_1 : decode cX12_read 1 = .ok (.iconst (-1), 1) := by decide +kernel
theorem dX12_read_2 : decode cX12_read 2 = .ok (.putfield 193, 3) := by decide +kernel
theorem dX12_read_5 : decode cX12_read 5 = .ok (.aload_n 0, 1) := by decide +kernel
theorem dX12_read_6 : decode cX12_read 6 = .ok (.iconst 0, 1) := by decide +kernel
theorem dX12_read_7 : decode cX12_read 7 = .ok (.putfield 181, 3) := by decide +kernel
theorem dX12_read_10 : decode cX12_read 10 = .ok (.aload_n 0, 1) := by decide +kernel
theorem dX12_read_11 : decode cX12_read 11 = .ok (.iconst 0, 1) := by decide +kernel
theorem dX12_read_12 : decode cX12_read 12 = .ok (.putfield 254, 3) := by decide +kernel
theorem dX12_read_15 : decode cX12_read 15 = .ok (.aload_n 0, 1) := by decide +kernel
theorem dX12_read_16 : decode cX12_read 16 = .ok (.iconst 0, 1) := by decide +kernel
theorem dX12_read_17 : decode cX12_read 17 = .ok (.putfield 282, 3) := by decide +kernel
theorem dX12_read_20 : decode cX12_read 20 = .ok (.aload_n 0, 1) := by decide +kernel
theorem dX12_read_21 : decode cX12_read 21 = .ok (.iconst 0, 1) := by decide +kernel
theorem dX12_read_22 : decode cX12_read 22 = .ok (.putfield 331, 3) := by decide +kernel
theorem dX12_read_25 : decode cX12_read 25 = .ok (.aload_n 0, 1) := by decide +kernel
theorem dX12_read_26 : decode cX12_read 26 = .ok (.iconst 0, 1) := by decide +kernel
theorem dX12_read_27 : decode cX12_read 27 = .ok (.putfield 340, 3) := by decide +kernel
theorem dX12_read_30 : decode cX12_read 30 = .ok (.aload_n 0, 1) := by decide +kernel
theorem dX12_read_31 : decode cX12_read 31 = .ok (.iconst 0, 1) := by decide +kernel
theorem dX12_read_32 : decode cX12_read 32 = .ok (.putfield 337, 3) := by decide +kernel
theorem dX12_read_35 : decode cX12_read 35 = .ok (.aload_n 0, 1) := by decide +kernel
theorem dX12_read_36 : decode cX12_read 36 = .ok (.iconst 0, 1) := by decide +kernel
theorem dX12_read_37 : decode cX12_read 37 = .ok (.putfield 358, 3) := by decide +kernel
theorem dX12_read_40 : decode cX12_read 40 = .ok (.aload_n 0, 1) := by decide +kernel
theorem dX12_read_41 : decode cX12_read 41 = .ok (.iconst 0, 1) := by decide +kernel
theorem dX12_read_42 : decode cX12_read 42 = .ok (.putfield 361, 3) := by decide +kernel
theorem dX12_read_45 : decode cX12_read 45 = .ok (.aload_n 0, 1) := by decide +kernel
theorem dX12_read_46 : decode cX12_read 46 = .ok (.invokevirtual 279, 3) := by decide +kernel
def fb_X12_read_49 (K49 : uS → Option (uS × Int32))  (s : uS) : Option (uS × Int32) := (fn_X12_isWord kW_76 s).bind fun v2 => if v2 = true then ((fn_X12_next s).bind fun s13 => (fn_X12_requires s13).bind fun s15 => (fn_X12_take 59 s15).bind fun s17 => K49 s17) else ((fn_X12_node 1 s).bind fun r5 => ((fg_0 100).2.2.1 ((wI r5.1 1079 67 r5.2).I 1079 67) (wI r5.1 1079 67 r5.2)).bind fun s7 => if 0 ≤ (s7.I 1079 40) then (some (s7, s7.I 1079 40)) else (if (s7.I 1079 31) = 0 then (some (s7, s7.I 1079 40)) else ((fn_X12_fail (s7.I 1079 32) s7).bind fun s11 => some (s11, s11.I 1079 40))))
set_option maxRecDepth 100000 in
set_option maxHeartbeats 4000000 in
theorem xb_X12_read_49 {l : Launch} {D : va_G} {A : Nat → ClassId} {B : Nat} {Z : State → Heap → Prop} {vF : Value} (uk : uK B Z vF) (un : uX A B Z) {K49 : uS → Option (uS × Int32)} (hK49 : ∀   (s : uS) (r : (uS × Int32)), K49  s = some r → GU l D A B Z mX12_read 112 (r.1, some (.int r.2)) s 49 [(0, .ref (B + 1079))] [])  {s : uS} {r : (uS × Int32)}  (h : fb_X12_read_49 K49  s = some r) : GU l D A B Z mX12_read 112 (r.1, some (.int r.2)) s 49 [(0, .ref (B + 1079))] [] := by
  unfold fb_X12_read_49 at h
  refine uu_aload_n dX12_read_49 rfl (List.mem_of_getElem? (i := 0) rfl) ?_
  obtain ⟨cq1, cp1, cv1, cw1⟩ := uk.2.1 76 _ rfl
  refine uu_ldcwS cv1 dX12_read_50 ?_
  obtain ⟨v2, e3, h⟩ := uu_ob h
  refine uu_cv (d1 := 5) (k := 1079) (ci := 12) (T := TX12) (N := 153) (As := [.ref cq1]) (st := []) (st' := [.int (bI v2)]) (xc_X12_isWord uk cw1 e3) so_1079.is (by decide) rfl kX12_isWord lX12_366 sX12_isWord (by decide) (Nat.le_of_ble_eq_true rfl) dX12_read_53 rfl ?_
  refine uu_ifb_eq (tgt := 76) dX12_read_56 (by decide) (fun c4 => ?_) (fun c4 => ?_)
  · replace h := uu_neg c4 h
    refine uu_aload_n dX12_read_76 rfl (List.mem_of_getElem? (i := 0) rfl) ?_
    refine uu_aload_n dX12_read_77 rfl (List.mem_of_getElem? (i := 0) rfl) ?_
    refine uu_iconst (v := 1) dX12_read_78 (by decide) ?_
    obtain ⟨r5, e6, h⟩ := uu_ob h
    refine uu_cv (d1 := 0) (k := 1079) (ci := 12) (T := TX12) (N := 153) (As := [.int 1]) (st := [.ref (B + 1079)]) (st' := [.int r5.2, .ref (B + 1079)]) (xc_X12_node uk  e6) so_1079.is (by decide) rfl kX12_node lX12_334 sX12_node (by decide) (Nat.le_of_ble_eq_true rfl) dX12_read_79 rfl ?_
    refine uu_puti (ft := .int) (ci := 12) (N := 153) fX12_372 ptX12 (Or.inl rfl) (by decide) so_1079.is (by decide) (by decide) (by decide +kernel) rfl rfl dX12_read_82 ?_
    refine uu_aload_n dX12_read_85 rfl (List.mem_of_getElem? (i := 0) rfl) ?_
    refine uu_aload_n dX12_read_86 rfl (List.mem_of_getElem? (i := 0) rfl) ?_
    refine uu_geti (ci := 12) (N := 153) fX12_372 (by decide) so_1079.is (by decide) (by decide) dX12_read_87 ?_
    obtain ⟨s7, e8, h⟩ := uu_ob h
    refine uu_cv (d1 := 111) (k := 1079) (ci := 12) (T := TX12) (N := 153) (As := [.int ((wI r5.1 1079 67 r5.2).I 1079 67)]) (st := []) (st' := []) ((xg_0 uk un 100).2.2.1 _ _ _ e8) so_1079.is (by decide) rfl kX12_commands lX12_375 sX12_commands (by decide) (Nat.le_of_ble_eq_true rfl) dX12_read_90 rfl ?_
    refine uu_aload_n dX12_read_93 rfl (List.mem_of_getElem? (i := 0) rfl) ?_
    refine uu_geti (ci := 12) (N := 153) fX12_193 (by decide) so_1079.is (by decide) (by decide) dX12_read_94 ?_
    refine uu_if_ge (tgt := 115) dX12_read_97 (by decide) (fun c9 => ?_) (fun c9 => ?_)
    · replace h := uu_pos c9 h
      refine uu_aload_n dX12_read_115 rfl (List.mem_of_getElem? (i := 0) rfl) ?_
      refine uu_geti (ci := 12) (N := 153) fX12_193 (by decide) so_1079.is (by decide) (by decide) dX12_read_116 ?_
      have hr := Option.some.inj h
      subst hr
      exact uu_iret rfl dX12_read_119
    · replace h := uu_neg c9 h
      refine uu_aload_n dX12_read_100 rfl (List.mem_of_getElem? (i := 0) rfl) ?_
      refine uu_geti (ci := 12) (N := 153) fX12_205 (by decide) so_1079.is (by decide) (by decide) dX12_read_101 ?_
      refine uu_if_eq (tgt := 115) dX12_read_104 (by decide) (fun c10 => ?_) (fun c10 => ?_)
      · replace h := uu_pos c10 h
        refine uu_aload_n dX12_read_115 rfl (List.mem_of_getElem? (i := 0) rfl) ?_
        refine uu_geti (ci := 12) (N := 153) fX12_193 (by decide) so_1079.is (by decide) (by decide) dX12_read_116 ?_
        have hr := Option.some.inj h
        subst hr
        exact uu_iret rfl dX12_read_119
      · replace h := uu_neg c10 h
        refine uu_aload_n dX12_read_107 rfl (List.mem_of_getElem? (i := 0) rfl) ?_
        refine uu_aload_n dX12_read_108 rfl (List.mem_of_getElem? (i := 0) rfl) ?_
        refine uu_geti (ci := 12) (N := 153) fX12_199 (by decide) so_1079.is (by decide) (by decide) dX12_read_109 ?_
        obtain ⟨s11, e12, h⟩ := uu_ob h
        refine uu_cv (d1 := 0) (k := 1079) (ci := 12) (T := TX12) (N := 153) (As := [.int (s7.I 1079 32)]) (st := []) (st' := []) (xc_X12_fail uk  e12) so_1079.is (by decide) rfl kX12_fail lX12_208 sX12_fail (by decide) (Nat.le_of_ble_eq_true rfl) dX12_read_112 rfl ?_
        refine uu_aload_n dX12_read_115 rfl (List.mem_of_getElem? (i := 0) rfl) ?_
        refine uu_geti (ci := 12) (N := 153) fX12_193 (by decide) so_1079.is (by decide) (by decide) dX12_read_116 ?_
        have hr := Option.some.inj h
        subst hr
        exact uu_iret rfl dX12_read_119
  · replace h := uu_pos c4 h
    refine uu_aload_n dX12_read_59 rfl (List.mem_of_getElem? (i := 0) rfl) ?_
    obtain ⟨s13, e14, h⟩ := uu_ob h
    refine uu_cv (d1 := 7) (k := 1079) (ci := 12) (T := TX12) (N := 153) (As := []) (st := []) (st' := []) (xc_X12_next uk  e14) so_1079.is (by decide) rfl kX12_next lX12_279 sX12_next (by decide) (Nat.le_of_ble_eq_true rfl) dX12_read_60 rfl ?_
    refine uu_aload_n dX12_read_63 rfl (List.mem_of_getElem? (i := 0) rfl) ?_
    obtain ⟨s15, e16, h⟩ := uu_ob h
    refine uu_cv (d1 := 9) (k := 1079) (ci := 12) (T := TX12) (N := 153) (As := []) (st := []) (st' := []) (xc_X12_requires uk  e16) so_1079.is (by decide) rfl kX12_requires lX12_369 sX12_requires (by decide) (Nat.le_of_ble_eq_true rfl) dX12_read_64 rfl ?_
    refine uu_aload_n dX12_read_67 rfl (List.mem_of_getElem? (i := 0) rfl) ?_
    refine uu_bipush (v := 59) dX12_read_68 (by decide) ?_
    obtain ⟨s17, e18, h⟩ := uu_ob h
    refine uu_cv (d1 := 8) (k := 1079) (ci := 12) (T := TX12) (N := 153) (As := [.int 59]) (st := []) (st' := []) (xc_X12_take uk  e18) so_1079.is (by decide) rfl kX12_take lX12_355 sX12_take (by decide) (Nat.le_of_ble_eq_true rfl) dX12_read_70 rfl ?_
    refine uu_goto (tgt := 49) dX12_read_73 (by decide) ?_
    exact hK49  _ _ h
def fn_X12_read_49  : Nat → uS → Option (uS × Int32)
  | 0 => fun _ => none
  | n + 1 => fb_X12_read_49 (fn_X12_read_49  n)
set_option maxRecDepth 100000 in
set_option maxHeartbeats 4000000 in
theorem xn_X12_read_49 {l : Launch} {D : va_G} {A : Nat → ClassId} {B : Nat} {Z : State → Heap → Prop} {vF : Value} (uk : uK B Z vF) (un : uX A B Z)   : ∀ (n : Nat)   (s : uS) (r : (uS × Int32)), fn_X12_read_49  n  s = some r → GU l D A B Z mX12_read 112 (r.1, some (.int r.2)) s 49 [(0, .ref (B + 1079))] [] := by
  intro n
  induction n with
  | zero => intro s r h
            cases h
  | succ n ih => intro s r h
                 exact xb_X12_read_49 uk un ih  h
def fn_X12_read  (s : uS) : Option (uS × Int32) := (fn_X12_next (wI (wI (wI (wI (wI (wI (wI (wI (wI s 1079 40 (-1)) 1079 30 0) 1079 37 0) 1079 41 0) 1079 42 0) 1079 61 0) 1079 64 0) 1079 65 0) 1079 66 0)).bind fun s1 => fn_X12_read_49 uFu s1
set_option maxRecDepth 100000 in
set_option maxHeartbeats 4000000 in
theorem xc_X12_read {l : Launch} {D : va_G} {A : Nat → ClassId} {B : Nat} {Z : State → Heap → Prop} {vF : Value} (uk : uK B Z vF) (un : uX A B Z)  {s : uS} {r : (uS × Int32)}  (h : fn_X12_read  s = some r) : CU l D A B Z 112 mX12_read s [.ref (B + 1079)] (r.1, some (.int r.2)) := by
  unfold fn_X12_read at h
  refine cu_of rfl uk.1.1 (Nat.le_of_ble_eq_true rfl) ?_
  show GU _ _ _ _ _ _ _ _ _ 0 [(0, .ref (B + 1079))] []
  refine uu_aload_n dX12_read_0 rfl (List.mem_of_getElem? (i := 0) rfl) ?_
  refine uu_iconst (v := -1) dX12_read_1 (by decide) ?_
  refine uu_puti (ft := .int) (ci := 12) (N := 153) fX12_193 ptX12 (Or.inl rfl) (by decide) so_1079.is (by decide) (by decide) (by decide +kernel) rfl rfl dX12_read_2 ?_
  refine uu_aload_n dX12_read_5 rfl (List.mem_of_getElem? (i := 0) rfl) ?_
  refine uu_iconst (v := 0) dX12_read_6 (by decide) ?_
  refine uu_puti (ft := .int) (ci := 12) (N := 153) fX12_181 ptX12 (Or.inl rfl) (by decide) so_1079.is (by decide) (by decide) (by decide +kernel) rfl rfl dX12_read_7 ?_
  refine uu_aload_n dX12_read_10 rfl (List.mem_of_getElem? (i := 0) rfl) ?_
  refine uu_iconst (v := 0) dX12_read_11 (by decide) ?_
  refine uu_puti (ft := .int) (ci := 12) (N := 153) fX12_254 ptX12 (Or.inl rfl) (by decide) so_1079.is (by decide) (by decide) (by decide +kernel) rfl rfl dX12_read_12 ?_
  refine uu_aload_n dX12_read_15 rfl (List.mem_of_getElem? (i := 0) rfl) ?_
  refine uu_iconst (v := 0) dX12_read_16 (by decide) ?_
  refine uu_puti (ft := .int) (ci := 12) (N := 153) fX12_282 ptX12 (Or.inl rfl) (by decide) so_1079.is (by decide) (by decide) (by decide +kernel) rfl rfl dX12_read_17 ?_
  refine uu_aload_n dX12_read_20 rfl (List.mem_of_getElem? (i := 0) rfl) ?_
  refine uu_iconst (v := 0) dX12_read_21 (by decide) ?_
  refine uu_puti (ft := .int) (ci := 12) (N := 153) fX12_331 ptX12 (Or.inl rfl) (by decide) so_1079.is (by decide) (by decide) (by decide +kernel) rfl rfl dX12_read_22 ?_
  refine uu_aload_n dX12_read_25 rfl (List.mem_of_getElem? (i := 0) rfl) ?_
  refine uu_iconst (v := 0) dX12_read_26 (by decide) ?_
  refine uu_puti (ft := .int) (ci := 12) (N := 153) fX12_340 ptX12 (Or.inl rfl) (by decide) so_1079.is (by decide) (by decide) (by decide +kernel) rfl rfl dX12_read_27 ?_
  refine uu_aload_n dX12_read_30 rfl (List.mem_of_getElem? (i := 0) rfl) ?_
  refine uu_iconst (v := 0) dX12_read_31 (by decide) ?_
  refine uu_puti (ft := .int) (ci := 12) (N := 153) fX12_337 ptX12 (Or.inl rfl) (by decide) so_1079.is (by decide) (by decide) (by decide +kernel) rfl rfl dX12_read_32 ?_
  refine uu_aload_n dX12_read_35 rfl (List.mem_of_getElem? (i := 0) rfl) ?_
  refine uu_iconst (v := 0) dX12_read_36 (by decide) ?_
  refine uu_puti (ft := .int) (ci := 12) (N := 153) fX12_358 ptX12 (Or.inl rfl) (by decide) so_1079.is (by decide) (by decide) (by decide +kernel) rfl rfl dX12_read_37 ?_
  refine uu_aload_n dX12_read_40 rfl (List.mem_of_getElem? (i := 0) rfl) ?_
  refine uu_iconst (v := 0) dX12_read_41 (by decide) ?_
  refine uu_puti (ft := .int) (ci := 12) (N := 153) fX12_361 ptX12 (Or.inl rfl) (by decide) so_1079.is (by decide) (by decide) (by decide +kernel) rfl rfl dX12_read_42 ?_
  refine uu_aload_n dX12_read_45 rfl (List.mem_of_getElem? (i := 0) rfl) ?_
  obtain ⟨s1, e2, h⟩ := uu_ob h
  refine uu_cv (d1 := 7) (k := 1079) (ci := 12) (T := TX12) (N := 153) (As := []) (st := []) (st' := []) (xc_X12_next uk  e2) so_1079.is (by decide) rfl kX12_next lX12_279 sX12_next (by decide) (Nat.le_of_ble_eq_true rfl) dX12_read_46 rfl ?_
  exact xn_X12_read_49 uk un  _ _ _ h
abbrev mX12_holds : hM := (yX12_holds, cX12_holds, 4, (some (.boolean)))
theorem dX12_holds_181 : decode cX12_holds 181 = .ok (.iload_n 3, 1) := by decide +kernel
theorem dX12_holds_182 : decode cX12_holds 182 = .ok (.ifCond .lt 32, 3) := by decide +kernel
theorem dX12_holds_214 : decode cX12_holds 214 = .ok (.iload_n 2, 1) := by decide +kernel
theorem dX12_holds_215 : decode cX12_holds 215 = .ok (.ireturn, 1) := by decide +kernel
theorem dX12_holds_185 : decode cX12_holds 185 = .ok (.aload_n 0, 1) := by decide +kernel
theorem dX12_holds_186 : decode cX12_holds 186 = .ok (.iload_n 3, 1) := by decide +kernel
theorem kX12_holds : h_ml mX12_holds 1 := ⟨h_t9 90 rfl rfl, h_t1 16 rfl rfl, ⟨by decide, by decide, by decide +kernel⟩, by decide⟩
theorem lX12_725 : Cond.methodLink RX12 725 mX12_holds.1 ∈ lw_g := h_t9 87 rfl rfl
theorem sX12_holds : Cond.instanceMethod mX12_holds.1 ∈ lw_g ∧ Cond.selects mX12_holds.1.cls mX12_holds.1 mX12_holds.1 ∈ lw_g := ⟨h_t9 89 rfl rfl, h_ins 166 rfl⟩
theorem dX12_holds_187 : decode cX12_holds 187 = .ok (.invokevirtual 725, 3) := by decide +kernel
theorem dX12_holds_190 : decode cX12_holds 190 = .ok (.iload_n 2, 1) := by decide +kernel
theorem dX12_holds_191 : decode cX12_holds 191 = .ok (.if_icmp .eq 13, 3) := by decide +kernel
theorem dX12_holds_204 : decode cX12_holds 204 = .ok (.aload_n 0, 1) := by decide +kernel
theorem dX12_holds_205 : decode cX12_holds 205 = .ok (.getfield 294, 3) := by decide +kernel
theorem dX12_holds_208 : decode cX12_holds 208 = .ok (.iload_n 3, 1) := by decide +kernel
theorem dX12_holds_209 : decode cX12_holds 209 = .ok (.iaload, 1) := by decide +kernel
theorem dX12_holds_210 : decode cX12_holds 210 = .ok (.istore_n 3, 1) := by decide +kernel
theorem dX12_holds_211 : decode cX12_holds 211 = .ok (.goto (-30), 3) := by decide +kernel
theorem dX12_holds_194 : decode cX12_holds 194 = .ok (.iload_n 2, 1) := by decide +kernel
theorem dX12_holds_195 : decode cX12_holds 195 = .ok (.ifCond .ne 7, 3) := by decide +kernel
theorem dX12_holds_202 : decode cX12_holds 202 = .ok (.iconst 0, 1) := by decide +kernel
theorem dX12_holds_203 : decode cX12_holds 203 = .ok (.ireturn, 1) := by decide +kernel
theorem dX12_holds_198 : decode cX12_holds 198 = .ok (.iconst 1, 1) := by decide +kernel
theorem dX12_holds_199 : decode cX12_holds 199 = .ok (.goto 4, 3) := by decide +kernel
theorem dX12_holds_0 : decode cX12_holds 0 = .ok (.aload_n 0, 1) := by decide +kernel
theorem dX12_holds_1 : decode cX12_holds 1 = .ok (.iconst 0, 1) := by decide +kernel
theorem dX12_holds_2 : decode cX12_holds 2 = .ok (.putfield 643, 3) := by decide +kernel
theorem dX12_holds_5 : decode cX12_holds 5 = .ok (.aload_n 0, 1) := by decide +kernel
theorem dX12_holds_6 : decode cX12_holds 6 = .ok (.iconst 0, 1) := by decide +kernel
theorem dX12_holds_7 : decode cX12_holds 7 = .ok (.putfield 646, 3) := by decide +kernel
theorem dX12_holds_10 : decode cX12_holds 10 = .ok (.aload_n 0, 1) := by decide +kernel
theorem dX12_holds_11 : decode cX12_holds 11 = .ok (.getfield 285, 3) := by decide +kernel
theorem dX12_holds_14 : decode cX12_holds 14 = .ok (.iload_n 1, 1) := by decide +kernel
theorem dX12_holds_15 : decode cX12_holds 15 = .ok (.iaload, 1) := by decide +kernel
theorem dX12_holds_16 : decode cX12_holds 16 = .ok (.tableswitch 219 20 28 #[52, 52, 63, 74, 85, 91, 141, 141, 200], 52) := by decide +kernel
theorem dX12_holds_68 : decode cX12_holds 68 = .ok (.aload_n 0, 1) := by decide +kernel
theorem dX12_holds_69 : decode cX12_holds 69 = .ok (.iload_n 1, 1) := by decide +kernel
theorem kX12_headers : h_ml mX12_headers 1 := ⟨h_t9 94 rfl rfl, h_t1 16 rfl rfl, ⟨by decide, by decide, by decide +kernel⟩, by decide⟩
theorem lX12_712 : Cond.methodLink RX12 712 mX12_headers.1 ∈ lw_g := h_t9 91 rfl rfl
theorem sX12_headers : Cond.instanceMethod mX12_headers.1 ∈ lw_g ∧ Cond.selects mX12_headers.1.cls mX12_headers.1 mX12_headers.1 ∈ lw_g := ⟨h_t9 93 rfl rfl, h_ins 167 rfl⟩
theorem dX12_holds_70 : decode cX12_holds 70 = .ok (.invokevirtual 712, 3) := by decide +kernel
theorem dX12_holds_73 : decode cX12_holds 73 = .ok (.aload_n 0, 1) := by decide +kernel
theorem dX12_holds_74 : decode cX12_holds 74 = .ok (.iload_n 1, 1) := by decide +kernel
theorem kX12_tested : h_ml mX12_tested 1 := ⟨h_t9 178 rfl rfl, h_t1 16 rfl rfl, ⟨by decide, by decide, by decide +kernel⟩, by decide⟩
theorem lX12_715 : Cond.methodLink RX12 715 mX12_tested.1 ∈ lw_g := h_t9 175 rfl rfl
theorem sX12_tested : Cond.instanceMethod mX12_tested.1 ∈ lw_g ∧ Cond.selects mX12_tested.1.cls mX12_tested.1 mX12_tested.1 ∈ lw_g := ⟨h_t9 177 rfl rfl, h_ins 185 rfl⟩
theorem dX12_holds_75 : decode cX12_holds 75 = .ok (.invokevirtual 715, 3) := by decide +kernel
theorem dX12_holds_78 : decode cX12_holds 78 = .ok (.ireturn, 1) := by decide +kernel
theorem dX12_holds_79 : decode cX12_holds 79 = .ok (.aload_n 0, 1) := by decide +kernel
theorem dX12_holds_80 : decode cX12_holds 80 = .ok (.iload_n 1, 1) := by decide +kernel
theorem kX12_envelope : h_ml mX12_envelope 1 := ⟨h_t9 186 rfl rfl, h_t1 16 rfl rfl, ⟨by decide, by decide, by decide +kernel⟩, by decide⟩
theorem lX12_718 : Cond.methodLink RX12 718 mX12_envelope.1 ∈ lw_g := h_t9 183 rfl rfl
theorem sX12_envelope : Cond.instanceMethod mX12_envelope.1 ∈ lw_g ∧ Cond.selects mX12_envelope.1.cls mX12_envelope.1 mX12_envelope.1 ∈ lw_g := ⟨h_t9 185 rfl rfl, h_ins 187 rfl⟩
theorem dX12_holds_81 : decode cX12_holds 81 = .ok (.invokevirtual 718, 3) := by decide +kernel
theorem dX12_holds_84 : decode cX12_holds 84 = .ok (.aload_n 0, 1) := by decide +kernel
theorem dX12_holds_85 : decode cX12_holds 85 = .ok (.iload_n 1, 1) := by decide +kernel
theorem dX12_holds_86 : decode cX12_holds 86 = .ok (.invokevirtual 715, 3) := by decide +kernel
theorem dX12_holds_89 : decode cX12_holds 89 = .ok (.ireturn, 1) := by decide +kernel
theorem dX12_holds_90 : decode cX12_holds 90 = .ok (.aload_n 0, 1) := by decide +kernel
theorem dX12_holds_91 : decode cX12_holds 91 = .ok (.iload_n 1, 1) := by decide +kernel
theorem kX12_flagsSet : h_ml mX12_flagsSet 1 := ⟨h_t9 212 rfl rfl, h_t1 16 rfl rfl, ⟨by decide, by decide, by decide +kernel⟩, by decide⟩
theorem lX12_720 : Cond.methodLink RX12 720 mX12_flagsSet.1 ∈ lw_g := h_t9 209 rfl rfl
theorem sX12_flagsSet : Cond.instanceMethod mX12_flagsSet.1 ∈ lw_g ∧ Cond.selects mX12_flagsSet.1.cls mX12_flagsSet.1 mX12_flagsSet.1 ∈ lw_g := ⟨h_t9 211 rfl rfl, h_ins 193 rfl⟩
theorem dX12_holds_92 : decode cX12_holds 92 = .ok (.invokevirtual 720, 3) := by decide +kernel
theorem dX12_holds_95 : decode cX12_holds 95 = .ok (.aload_n 0, 1) := by decide +kernel
theorem dX12_holds_96 : decode cX12_holds 96 = .ok (.iload_n 1, 1) := by decide +kernel
theorem dX12_holds_97 : decode cX12_holds 97 = .ok (.invokevirtual 715, 3) := by decide +kernel
theorem dX12_holds_100 : decode cX12_holds 100 = .ok (.ireturn, 1) := by decide +kernel
theorem dX12_holds_101 : decode cX12_holds 101 = .ok (.aload_n 0, 1) := by decide +kernel
theorem dX12_holds_102 : decode cX12_holds 102 = .ok (.iload_n 1, 1) := by decide +kernel
theorem kX12_exists : h_ml mX12_exists 1 := ⟨h_t9 221 rfl rfl, h_t1 16 rfl rfl, ⟨by decide, by decide, by decide +kernel⟩, by decide⟩
theorem lX12_723 : Cond.methodLink RX12 723 mX12_exists.1 ∈ lw_g := h_t9 218 rfl rfl
theorem sX12_exists : Cond.instanceMethod mX12_exists.1 ∈ lw_g ∧ Cond.selects mX12_exists.1.cls mX12_exists.1 mX12_exists.1 ∈ lw_g := ⟨h_t9 220 rfl rfl, h_ins 194 rfl⟩
theorem dX12_holds_103 : decode cX12_holds 103 = .ok (.invokevirtual 723, 3) := by decide +kernel
theorem dX12_holds_106 : decode cX12_holds 106 = .ok (.ireturn, 1) := by decide +kernel
theorem dX12_holds_107 : decode cX12_holds 107 = .ok (.aload_n 0, 1) := by decide +kernel
theorem dX12_holds_108 : decode cX12_holds 108 = .ok (.getfield 310, 3) := by decide +kernel
theorem dX12_holds_111 : decode cX12_holds 111 = .ok (.iload_n 1, 1) := by decide +kernel
theorem dX12_holds_112 : decode cX12_holds 112 = .ok (.iaload, 1) := by decide +kernel
theorem dX12_holds_113 : decode cX12_holds 113 = .ok (.iconst 1, 1) := by decide +kernel
theorem dX12_holds_114 : decode cX12_holds 114 = .ok (.if_icmp .ne 24, 3) := by decide +kernel
theorem dX12_holds_138 : decode cX12_holds 138 = .ok (.aload_n 0, 1) := by decide +kernel
theorem dX12_holds_139 : decode cX12_holds 139 = .ok (.getfield 75, 3) := by decide +kernel
theorem dX12_holds_142 : decode cX12_holds 142 = .ok (.aload_n 0, 1) := by decide +kernel
theorem dX12_holds_143 : decode cX12_holds 143 = .ok (.getfield 322, 3) := by decide +kernel
theorem dX12_holds_146 : decode cX12_holds 146 = .ok (.iload_n 1, 1) := by decide +kernel
theorem dX12_holds_147 : decode cX12_holds 147 = .ok (.iaload, 1) := by decide +kernel
theorem dX12_holds_148 : decode cX12_holds 148 = .ok (.if_icmp .ge 7, 3) := by decide +kernel
theorem dX12_holds_155 : decode cX12_holds 155 = .ok (.iconst 0, 1) := by decide +kernel
theorem dX12_holds_156 : decode cX12_holds 156 = .ok (.ireturn, 1) := by decide +kernel
theorem dX12_holds_151 : decode cX12_holds 151 = .ok (.iconst 1, 1) := by decide +kernel
theorem dX12_holds_152 : decode cX12_holds 152 = .ok (.goto 4, 3) := by decide +kernel
theorem dX12_holds_117 : decode cX12_holds 117 = .ok (.aload_n 0, 1) := by decide +kernel
theorem dX12_holds_118 : decode cX12_holds 118 = .ok (.getfield 75, 3) := by decide +kernel
theorem dX12_holds_121 : decode cX12_holds 121 = .ok (.aload_n 0, 1) := by decide +kernel
theorem dX12_holds_122 : decode cX12_holds 122 = .ok (.getfield 322, 3) := by decide +kernel
theorem dX12_holds_125 : decode cX12_holds 125 = .ok (.iload_n 1, 1) := by decide +kernel
theorem dX12_holds_126 : decode cX12_holds 126 = .ok (.iaload, 1) := by decide +kernel
theorem dX12_holds_127 : decode cX12_holds 127 = .ok (.if_icmp .le 7, 3) := by decide +kernel
theorem dX12_holds_134 : decode cX12_holds 134 = .ok (.iconst 0, 1) := by decide +kernel
theorem dX12_holds_135 : decode cX12_holds 135 = .ok (.goto 21, 3) := by decide +kernel
theorem dX12_holds_130 : decode cX12_holds 130 = .ok (.iconst 1, 1) := by decide +kernel
theorem dX12_holds_131 : decode cX12_holds 131 = .ok (.goto 25, 3) := by decide +kernel
theorem dX12_holds_157 : decode cX12_holds 157 = .ok (.aload_n 0, 1) := by decide +kernel
theorem dX12_holds_158 : decode cX12_holds 158 = .ok (.getfield 285, 3) := by decide +kernel
theorem dX12_holds_161 : decode cX12_holds 161 = .ok (.iload_n 1, 1) := by decide +kernel
theorem dX12_holds_162 : decode cX12_holds 162 = .ok (.iaload, 1) := by decide +kernel
theorem dX12_holds_163 : decode cX12_holds 163 = .ok (.bipush 26, 2) := by decide +kernel
theorem dX12_holds_165 : decode cX12_holds 165 = .ok (.if_icmp .ne 7, 3) := by decide +kernel
theorem dX12_holds_172 : decode cX12_holds 172 = .ok (.iconst 0, 1) := by decide +kernel
theorem dX12_holds_173 : decode cX12_holds 173 = .ok (.istore_n 2, 1) := by decide +kernel
theorem dX12_holds_174 : decode cX12_holds 174 = .ok (.aload_n 0, 1) := by decide +kernel
theorem dX12_holds_175 : decode cX12_holds 175 = .ok (.getfield 288, 3) := by decide +kernel
theorem dX12_holds_178 : decode cX12_holds 178 = .ok (.iload_n 1, 1) := by decide +kernel
theorem dX12_holds_179 : decode cX12_holds 179 = .ok (.iaload, 1) := by decide +kernel
theorem dX12_holds_180 : decode cX12_holds 180 = .ok (.istore_n 3, 1) := by decide +kernel
theorem dX12_holds_168 : decode cX12_holds 168 = .ok (.iconst 1, 1) := by decide +kernel
theorem dX12_holds_169 : decode cX12_holds 169 = .ok (.goto 4, 3) := by decide +kernel
theorem dX12_holds_216 : decode cX12_holds 216 = .ok (.aload_n 0, 1) := by decide +kernel
theorem dX12_holds_217 : decode cX12_holds 217 = .ok (.aload_n 0, 1) := by decide +kernel
theorem dX12_holds_218 : decode cX12_holds 218 = .ok (.getfield 288, 3) := by decide +kernel
theorem dX12_holds_221 : decode cX12_holds 221 = .ok (.iload_n 1, 1) := by decide +kernel
theorem dX12_holds_222 : decode cX12_holds 222 = .ok (.iaload, 1) := by decide +kernel
theorem dX12_holds_223 : decode cX12_holds 223 = .ok (.invokevirtual 725, 3) := by decide +kernel
theorem dX12_holds_226 : decode cX12_holds 226 = .ok (.ifCond .ne 7, 3) := by decide +kernel
theorem dX12_holds_233 : decode cX12_holds 233 = .ok (.iconst 0, 1) := by decide +kernel
theorem dX12_holds_234 : decode cX12_holds 234 = .ok (.ireturn, 1) := by decide +kernel
theorem dX12_holds_229 : decode cX12_holds 229 = .ok (.iconst 1, 1) := by decide +kernel
theorem dX12_holds_230 : decode cX12_holds 230 = .ok (.goto 4, 3) := by decide +kernel
theorem dX12_holds_235 : decode cX12_holds 235 = .ok (.aload_n 0, 1) := by decide +kernel
theorem dX12_holds_236 : decode cX12_holds 236 = .ok (.getfield 285, 3) := by decide +kernel
theorem dX12_holds_239 : decode cX12_holds 239 = .ok (.iload_n 1, 1) := by decide +kernel
theorem dX12_holds_240 : decode cX12_holds 240 = .ok (.iaload, 1) := by decide +kernel
theorem dX12_holds_241 : decode cX12_holds 241 = .ok (.bipush 29, 2) := by decide +kernel
theorem dX12_holds_243 : decode cX12_holds 243 = .ok (.if_icmp .ne 7, 3) := by decide +kernel
theorem dX12_holds_250 : decode cX12_holds 250 = .ok (.iconst 0, 1) := by decide +kernel
theorem dX12_holds_251 : decode cX12_holds 251 = .ok (.ireturn, 1) := by decide +kernel
theorem dX12_holds_246 : decode cX12_holds 246 = .ok (.iconst 1, 1) := by decide +kernel
theorem dX12_holds_247 : decode cX12_holds 247 = .ok (.goto 4, 3) := by decide +kernel
def fb_X12_holds_181 (R_X12_holds : Int32 → uS → Option (uS × Bool)) (K181 : Bool → Int32 → uS → Option (uS × Bool)) (b2 : Bool) (x3 : Int32) (s : uS) : Option (uS × Bool) := if x3 < 0 then (some (s, b2)) else ((R_X12_holds x3 s).bind fun r2 => if (bI r2.2) = (bI b2) then ((iget 20 r2.1 1101 x3).bind fun v5 => K181 b2 v5 r2.1) else (if b2 = true then (some (r2.1, false)) else (some (r2.1, true))))
set_option maxRecDepth 100000 in
set_option maxHeartbeats 4000000 in
theorem xb_X12_holds_181 {l : Launch} {D : va_G} {A : Nat → ClassId} {B : Nat} {Z : State → Heap → Prop} {vF : Value} (uk : uK B Z vF) (un : uX A B Z) {n : Nat} {R_X12_holds : Int32 → uS → Option (uS × Bool)} {K181 : Bool → Int32 → uS → Option (uS × Bool)} (hR_X12_holds : ∀ (x1 : Int32) (s : uS) (r : (uS × Bool)), R_X12_holds x1 s = some r → CU l D A B Z (7 + n) mX12_holds s [.ref (B + 1079), .int x1] (r.1, some (.int (bI r.2)))) (hK181 : ∀ (b2 : Bool) (x3 : Int32)  (s : uS) (r : (uS × Bool)), K181 b2 x3 s = some r → GU l D A B Z mX12_holds (7 + (n + 1)) (r.1, some (.int (bI r.2))) s 181 [(0, .ref (B + 1079)), (2, .int (bI b2)), (3, .int x3)] []) {b2 : Bool} {x3 : Int32} {s : uS} {r : (uS × Bool)}  (h : fb_X12_holds_181 R_X12_holds K181 b2 x3 s = some r) : GU l D A B Z mX12_holds (7 + (n + 1)) (r.1, some (.int (bI r.2))) s 181 [(0, .ref (B + 1079)), (2, .int (bI b2)), (3, .int x3)] [] := by
  unfold fb_X12_holds_181 at h
  refine uu_iload_n dX12_holds_181 rfl (List.mem_of_getElem? (i := 2) rfl) ?_
  refine uu_if_lt (tgt := 214) dX12_holds_182 (by decide) (fun c1 => ?_) (fun c1 => ?_)
  · replace h := uu_pos c1 h
    refine uu_iload_n dX12_holds_214 rfl (List.mem_of_getElem? (i := 1) rfl) ?_
    have hr := Option.some.inj h
    subst hr
    exact uu_zret (x := bI b2) rfl (bI_z _) dX12_holds_215
  · replace h := uu_neg c1 h
    refine uu_aload_n dX12_holds_185 rfl (List.mem_of_getElem? (i := 0) rfl) ?_
    refine uu_iload_n dX12_holds_186 rfl (List.mem_of_getElem? (i := 2) rfl) ?_
    obtain ⟨r2, e3, h⟩ := uu_ob h
    refine uu_cv (d1 := 7 + n) (k := 1079) (ci := 12) (T := TX12) (N := 153) (As := [.int x3]) (st := []) (st' := [.int (bI r2.2)]) (hR_X12_holds _ _ _ e3) so_1079.is (by decide) rfl kX12_holds lX12_725 sX12_holds (by omega) (Nat.le_of_ble_eq_true rfl) dX12_holds_187 rfl ?_
    refine uu_iload_n dX12_holds_190 rfl (List.mem_of_getElem? (i := 1) rfl) ?_
    refine uu_icmp_eq (tgt := 204) dX12_holds_191 (by decide) (fun c4 => ?_) (fun c4 => ?_)
    · replace h := uu_pos c4 h
      refine uu_aload_n dX12_holds_204 rfl (List.mem_of_getElem? (i := 0) rfl) ?_
      refine uu_geta (ci := 12) (N := 153) fX12_294 (by decide) so_1079.is (by decide) (c := 1101) (by decide) dX12_holds_205 ?_
      refine uu_iload_n dX12_holds_208 rfl (List.mem_of_getElem? (i := 2) rfl) ?_
      obtain ⟨v5, e6, h⟩ := uu_ob h
      refine uu_iald e6 dX12_holds_209 ?_
      refine uu_istore_n dX12_holds_210 rfl (by decide) rfl ?_
      refine uu_goto (tgt := 181) dX12_holds_211 (by decide) ?_
      refine uu_lv [1, 2, 0] (lv' := [(0, .ref (B + 1079)), (2, .int (bI b2)), (3, .int v5)]) rfl ?_
      exact hK181 b2 v5 _ _ h
    · replace h := uu_neg c4 h
      refine uu_iload_n dX12_holds_194 rfl (List.mem_of_getElem? (i := 1) rfl) ?_
      refine uu_ifb_ne (tgt := 202) dX12_holds_195 (by decide) (fun c7 => ?_) (fun c7 => ?_)
      · replace h := uu_pos c7 h
        refine uu_iconst (v := 0) dX12_holds_202 (by decide) ?_
        have hr := Option.some.inj h
        subst hr
        exact uu_zret (x := bI false) rfl (bI_z _) dX12_holds_203
      · replace h := uu_neg c7 h
        refine uu_iconst (v := 1) dX12_holds_198 (by decide) ?_
        refine uu_goto (tgt := 203) dX12_holds_199 (by decide) ?_
        have hr := Option.some.inj h
        subst hr
        exact uu_zret (x := bI true) rfl (bI_z _) dX12_holds_203
def fn_X12_holds_181 (R_X12_holds : Int32 → uS → Option (uS × Bool))  : Nat → Bool → Int32 → uS → Option (uS × Bool)
  | 0 => fun _ _ _ => none
  | t + 1 => fb_X12_holds_181 R_X12_holds (fn_X12_holds_181 R_X12_holds  t)
set_option maxRecDepth 100000 in
set_option maxHeartbeats 4000000 in
theorem xn_X12_holds_181 {l : Launch} {D : va_G} {A : Nat → ClassId} {B : Nat} {Z : State → Heap → Prop} {vF : Value} (uk : uK B Z vF) (un : uX A B Z) {n : Nat} {R_X12_holds : Int32 → uS → Option (uS × Bool)}  (hR_X12_holds : ∀ (x1 : Int32) (s : uS) (r : (uS × Bool)), R_X12_holds x1 s = some r → CU l D A B Z (7 + n) mX12_holds s [.ref (B + 1079), .int x1] (r.1, some (.int (bI r.2))))  : ∀ (t : Nat) (b2 : Bool) (x3 : Int32)  (s : uS) (r : (uS × Bool)), fn_X12_holds_181 R_X12_holds  t b2 x3 s = some r → GU l D A B Z mX12_holds (7 + (n + 1)) (r.1, some (.int (bI r.2))) s 181 [(0, .ref (B + 1079)), (2, .int (bI b2)), (3, .int x3)] [] := by
  intro t
  induction t with
  | zero => intro b2 x3 s r h
            cases h
  | succ t ih => intro b2 x3 s r h
                 exact xb_X12_holds_181 uk un hR_X12_holds ih  h
def fn_X12_holds (R_X12_holds : Int32 → uS → Option (uS × Bool)) (x1 : Int32) (s : uS) : Option (uS × Bool) := (iget 20 (wI (wI s 1079 109 0) 1079 110 0) 1098 x1).bind fun v1 => if v1 = 20 then ((fn_X12_headers x1 (wI (wI s 1079 109 0) 1079 110 0)).bind fun s3 => (fn_X12_tested x1 s3).bind fun r5 => some (r5.1, r5.2)) else (if v1 = 21 then ((fn_X12_headers x1 (wI (wI s 1079 109 0) 1079 110 0)).bind fun s7 => (fn_X12_tested x1 s7).bind fun r9 => some (r9.1, r9.2)) else (if v1 = 22 then ((fn_X12_envelope x1 (wI (wI s 1079 109 0) 1079 110 0)).bind fun s11 => (fn_X12_tested x1 s11).bind fun r13 => some (r13.1, r13.2)) else (if v1 = 23 then ((fn_X12_flagsSet x1 (wI (wI s 1079 109 0) 1079 110 0)).bind fun s15 => (fn_X12_tested x1 s15).bind fun r17 => some (r17.1, r17.2)) else (if v1 = 24 then ((fn_X12_exists x1 (wI (wI s 1079 109 0) 1079 110 0)).bind fun v19 => some (wI (wI s 1079 109 0) 1079 110 0, v19)) else (if v1 = 25 then ((iget 20 (wI (wI s 1079 109 0) 1079 110 0) 1109 x1).bind fun v21 => if v21 = 1 then ((iget 20 (wI (wI s 1079 109 0) 1079 110 0) 1113 x1).bind fun v27 => if ((wI (wI s 1079 109 0) 1079 110 0).I 1079 13) ≤ v27 then (some (wI (wI s 1079 109 0) 1079 110 0, false)) else (some (wI (wI s 1079 109 0) 1079 110 0, true))) else ((iget 20 (wI (wI s 1079 109 0) 1079 110 0) 1113 x1).bind fun v24 => if v24 ≤ ((wI (wI s 1079 109 0) 1079 110 0).I 1079 13) then (some (wI (wI s 1079 109 0) 1079 110 0, false)) else (some (wI (wI s 1079 109 0) 1079 110 0, true)))) else (if v1 = 26 then ((iget 20 (wI (wI s 1079 109 0) 1079 110 0) 1098 x1).bind fun v30 => if v30 = 26 then ((iget 20 (wI (wI s 1079 109 0) 1079 110 0) 1099 x1).bind fun v35 => fn_X12_holds_181 R_X12_holds uFu true v35 (wI (wI s 1079 109 0) 1079 110 0)) else ((iget 20 (wI (wI s 1079 109 0) 1079 110 0) 1099 x1).bind fun v33 => fn_X12_holds_181 R_X12_holds uFu false v33 (wI (wI s 1079 109 0) 1079 110 0))) else (if v1 = 27 then ((iget 20 (wI (wI s 1079 109 0) 1079 110 0) 1098 x1).bind fun v37 => if v37 = 26 then ((iget 20 (wI (wI s 1079 109 0) 1079 110 0) 1099 x1).bind fun v42 => fn_X12_holds_181 R_X12_holds uFu true v42 (wI (wI s 1079 109 0) 1079 110 0)) else ((iget 20 (wI (wI s 1079 109 0) 1079 110 0) 1099 x1).bind fun v40 => fn_X12_holds_181 R_X12_holds uFu false v40 (wI (wI s 1079 109 0) 1079 110 0))) else (if v1 = 28 then ((iget 20 (wI (wI s 1079 109 0) 1079 110 0) 1099 x1).bind fun v44 => (R_X12_holds v44 (wI (wI s 1079 109 0) 1079 110 0)).bind fun r46 => if r46.2 = true then (some (r46.1, false)) else (some (r46.1, true))) else ((iget 20 (wI (wI s 1079 109 0) 1079 110 0) 1098 x1).bind fun v49 => if v49 = 29 then (some (wI (wI s 1079 109 0) 1079 110 0, true)) else (some (wI (wI s 1079 109 0) 1079 110 0, false)))))))))))
set_option maxRecDepth 100000 in
set_option maxHeartbeats 4000000 in
theorem xc_X12_holds {l : Launch} {D : va_G} {A : Nat → ClassId} {B : Nat} {Z : State → Heap → Prop} {vF : Value} (uk : uK B Z vF) (un : uX A B Z) {n : Nat} {R_X12_holds : Int32 → uS → Option (uS × Bool)} (hR_X12_holds : ∀ (x1 : Int32) (s : uS) (r : (uS × Bool)), R_X12_holds x1 s = some r → CU l D A B Z (7 + n) mX12_holds s [.ref (B + 1079), .int x1] (r.1, some (.int (bI r.2)))) {x1 : Int32} {s : uS} {r : (uS × Bool)}  (h : fn_X12_holds R_X12_holds x1 s = some r) : CU l D A B Z (7 + (n + 1)) mX12_holds s [.ref (B + 1079), .int x1] (r.1, some (.int (bI r.2))) := by
  unfold fn_X12_holds at h
  refine cu_of rfl uk.1.1 (Nat.le_of_ble_eq_true rfl) ?_
  show GU _ _ _ _ _ _ _ _ _ 0 [(0, .ref (B + 1079)), (1, .int x1)] []
  refine uu_aload_n dX12_holds_0 rfl (List.mem_of_getElem? (i := 0) rfl) ?_
  refine uu_iconst (v := 0) dX12_holds_1 (by decide) ?_
  refine uu_puti (ft := .int) (ci := 12) (N := 153) fX12_643 ptX12 (Or.inl rfl) (by decide) so_1079.is (by decide) (by decide) (by decide +kernel) rfl rfl dX12_holds_2 ?_
  refine uu_aload_n dX12_holds_5 rfl (List.mem_of_getElem? (i := 0) rfl) ?_
  refine uu_iconst (v := 0) dX12_holds_6 (by decide) ?_
  refine uu_puti (ft := .boolean) (ci := 12) (N := 153) fX12_646 ptX12 (Or.inl rfl) (by decide) so_1079.is (by decide) (by decide) (by decide +kernel) rfl rfl dX12_holds_7 ?_
  refine uu_aload_n dX12_holds_10 rfl (List.mem_of_getElem? (i := 0) rfl) ?_
  refine uu_geta (ci := 12) (N := 153) fX12_285 (by decide) so_1079.is (by decide) (c := 1098) (by decide) dX12_holds_11 ?_
  refine uu_iload_n dX12_holds_14 rfl (List.mem_of_getElem? (i := 1) rfl) ?_
  obtain ⟨v1, e2, h⟩ := uu_ob h
  refine uu_iald e2 dX12_holds_15 ?_
  by_cases c16_0 : v1 = 20
  · replace h := uu_pos c16_0 h
    refine uu_tabE (tgt := 68) (off := 52) (v := 20) dX12_holds_16 c16_0 (by decide) (by decide) rfl (by decide) ?_
    refine uu_aload_n dX12_holds_68 rfl (List.mem_of_getElem? (i := 0) rfl) ?_
    refine uu_iload_n dX12_holds_69 rfl (List.mem_of_getElem? (i := 1) rfl) ?_
    obtain ⟨s3, e4, h⟩ := uu_ob h
    refine uu_cv (d1 := 5) (k := 1079) (ci := 12) (T := TX12) (N := 153) (As := [.int x1]) (st := []) (st' := []) (xc_X12_headers uk  e4) so_1079.is (by decide) rfl kX12_headers lX12_712 sX12_headers (by omega) (Nat.le_of_ble_eq_true rfl) dX12_holds_70 rfl ?_
    refine uu_aload_n dX12_holds_73 rfl (List.mem_of_getElem? (i := 0) rfl) ?_
    refine uu_iload_n dX12_holds_74 rfl (List.mem_of_getElem? (i := 1) rfl) ?_
    obtain ⟨r5, e6, h⟩ := uu_ob h
    refine uu_cv (d1 := 3) (k := 1079) (ci := 12) (T := TX12) (N := 153) (As := [.int x1]) (st := []) (st' := [.int (bI r5.2)]) (xc_X12_tested uk  e6) so_1079.is (by decide) rfl kX12_tested lX12_715 sX12_tested (by omega) (Nat.le_of_ble_eq_true rfl) dX12_holds_75 rfl ?_
    have hr := Option.some.inj h
    subst hr
    exact uu_zret (x := bI r5.2) rfl (bI_z _) dX12_holds_78
  replace h := uu_neg c16_0 h
  by_cases c16_1 : v1 = 21
  · replace h := uu_pos c16_1 h
    refine uu_tabE (tgt := 68) (off := 52) (v := 21) dX12_holds_16 c16_1 (by decide) (by decide) rfl (by decide) ?_
    refine uu_aload_n dX12_holds_68 rfl (List.mem_of_getElem? (i := 0) rfl) ?_
    refine uu_iload_n dX12_holds_69 rfl (List.mem_of_getElem? (i := 1) rfl) ?_
    obtain ⟨s7, e8, h⟩ := uu_ob h
    refine uu_cv (d1 := 5) (k := 1079) (ci := 12) (T := TX12) (N := 153) (As := [.int x1]) (st := []) (st' := []) (xc_X12_headers uk  e8) so_1079.is (by decide) rfl kX12_headers lX12_712 sX12_headers (by omega) (Nat.le_of_ble_eq_true rfl) dX12_holds_70 rfl ?_
    refine uu_aload_n dX12_holds_73 rfl (List.mem_of_getElem? (i := 0) rfl) ?_
    refine uu_iload_n dX12_holds_74 rfl (List.mem_of_getElem? (i := 1) rfl) ?_
    obtain ⟨r9, e10, h⟩ := uu_ob h
    refine uu_cv (d1 := 3) (k := 1079) (ci := 12) (T := TX12) (N := 153) (As := [.int x1]) (st := []) (st' := [.int (bI r9.2)]) (xc_X12_tested uk  e10) so_1079.is (by decide) rfl kX12_tested lX12_715 sX12_tested (by omega) (Nat.le_of_ble_eq_true rfl) dX12_holds_75 rfl ?_
    have hr := Option.some.inj h
    subst hr
    exact uu_zret (x := bI r9.2) rfl (bI_z _) dX12_holds_78
  replace h := uu_neg c16_1 h
  by_cases c16_2 : v1 = 22
  · replace h := uu_pos c16_2 h
    refine uu_tabE (tgt := 79) (off := 63) (v := 22) dX12_holds_16 c16_2 (by decide) (by decide) rfl (by decide) ?_
    refine uu_aload_n dX12_holds_79 rfl (List.mem_of_getElem? (i := 0) rfl) ?_
    refine uu_iload_n dX12_holds_80 rfl (List.mem_of_getElem? (i := 1) rfl) ?_
    obtain ⟨s11, e12, h⟩ := uu_ob h
    refine uu_cv (d1 := 6) (k := 1079) (ci := 12) (T := TX12) (N := 153) (As := [.int x1]) (st := []) (st' := []) (xc_X12_envelope uk  e12) so_1079.is (by decide) rfl kX12_envelope lX12_718 sX12_envelope (by omega) (Nat.le_of_ble_eq_true rfl) dX12_holds_81 rfl ?_
    refine uu_aload_n dX12_holds_84 rfl (List.mem_of_getElem? (i := 0) rfl) ?_
    refine uu_iload_n dX12_holds_85 rfl (List.mem_of_getElem? (i := 1) rfl) ?_
    obtain ⟨r13, e14, h⟩ := uu_ob h
    refine uu_cv (d1 := 3) (k := 1079) (ci := 12) (T := TX12) (N := 153) (As := [.int x1]) (st := []) (st' := [.int (bI r13.2)]) (xc_X12_tested uk  e14) so_1079.is (by decide) rfl kX12_tested lX12_715 sX12_tested (by omega) (Nat.le_of_ble_eq_true rfl) dX12_holds_86 rfl ?_
    have hr := Option.some.inj h
    subst hr
    exact uu_zret (x := bI r13.2) rfl (bI_z _) dX12_holds_89
  replace h := uu_neg c16_2 h
  by_cases c16_3 : v1 = 23
  · replace h := uu_pos c16_3 h
    refine uu_tabE (tgt := 90) (off := 74) (v := 23) dX12_holds_16 c16_3 (by decide) (by decide) rfl (by decide) ?_
    refine uu_aload_n dX12_holds_90 rfl (List.mem_of_getElem? (i := 0) rfl) ?_
    refine uu_iload_n dX12_holds_91 rfl (List.mem_of_getElem? (i := 1) rfl) ?_
    obtain ⟨s15, e16, h⟩ := uu_ob h
    refine uu_cv (d1 := 5) (k := 1079) (ci := 12) (T := TX12) (N := 153) (As := [.int x1]) (st := []) (st' := []) (xc_X12_flagsSet uk  e16) so_1079.is (by decide) rfl kX12_flagsSet lX12_720 sX12_flagsSet (by omega) (Nat.le_of_ble_eq_true rfl) dX12_holds_92 rfl ?_
    refine uu_aload_n dX12_holds_95 rfl (List.mem_of_getElem? (i := 0) rfl) ?_
    refine uu_iload_n dX12_holds_96 rfl (List.mem_of_getElem? (i := 1) rfl) ?_
    obtain ⟨r17, e18, h⟩ := uu_ob h
    refine uu_cv (d1 := 3) (k := 1079) (ci := 12) (T := TX12) (N := 153) (As := [.int x1]) (st := []) (st' := [.int (bI r17.2)]) (xc_X12_tested uk  e18) so_1079.is (by decide) rfl kX12_tested lX12_715 sX12_tested (by omega) (Nat.le_of_ble_eq_true rfl) dX12_holds_97 rfl ?_
    have hr := Option.some.inj h
    subst hr
    exact uu_zret (x := bI r17.2) rfl (bI_z _) dX12_holds_100
  replace h := uu_neg c16_3 h
  by_cases c16_4 : v1 = 24
  · replace h := uu_pos c16_4 h
    refine uu_tabE (tgt := 101) (off := 85) (v := 24) dX12_holds_16 c16_4 (by decide) (by decide) rfl (by decide) ?_
    refine uu_aload_n dX12_holds_101 rfl (List.mem_of_getElem? (i := 0) rfl) ?_
    refine uu_iload_n dX12_holds_102 rfl (List.mem_of_getElem? (i := 1) rfl) ?_
    obtain ⟨v19, e20, h⟩ := uu_ob h
    refine uu_cv (d1 := 2) (k := 1079) (ci := 12) (T := TX12) (N := 153) (As := [.int x1]) (st := []) (st' := [.int (bI v19)]) (xc_X12_exists uk  e20) so_1079.is (by decide) rfl kX12_exists lX12_723 sX12_exists (by omega) (Nat.le_of_ble_eq_true rfl) dX12_holds_103 rfl ?_
    have hr := Option.some.inj h
    subst hr
    exact uu_zret (x := bI v19) rfl (bI_z _) dX12_holds_106
  replace h := uu_neg c16_4 h
  by_cases c16_5 : v1 = 25
  · replace h := uu_pos c16_5 h
    refine uu_tabE (tgt := 107) (off := 91) (v := 25) dX12_holds_16 c16_5 (by decide) (by decide) rfl (by decide) ?_
    refine uu_aload_n dX12_holds_107 rfl (List.mem_of_getElem? (i := 0) rfl) ?_
    refine uu_geta (ci := 12) (N := 153) fX12_310 (by decide) so_1079.is (by decide) (c := 1109) (by decide) dX12_holds_108 ?_
    refine uu_iload_n dX12_holds_111 rfl (List.mem_of_getElem? (i := 1) rfl) ?_
    obtain ⟨v21, e22, h⟩ := uu_ob h
    refine uu_iald e22 dX12_holds_112 ?_
    refine uu_iconst (v := 1) dX12_holds_113 (by decide) ?_
    refine uu_icmp_ne (tgt := 138) dX12_holds_114 (by decide) (fun c23 => ?_) (fun c23 => ?_)
    · replace h := uu_neg c23 h
      refine uu_aload_n dX12_holds_138 rfl (List.mem_of_getElem? (i := 0) rfl) ?_
      refine uu_geti (ci := 12) (N := 153) fX12_75 (by decide) so_1079.is (by decide) (by decide) dX12_holds_139 ?_
      refine uu_aload_n dX12_holds_142 rfl (List.mem_of_getElem? (i := 0) rfl) ?_
      refine uu_geta (ci := 12) (N := 153) fX12_322 (by decide) so_1079.is (by decide) (c := 1113) (by decide) dX12_holds_143 ?_
      refine uu_iload_n dX12_holds_146 rfl (List.mem_of_getElem? (i := 1) rfl) ?_
      obtain ⟨v24, e25, h⟩ := uu_ob h
      refine uu_iald e25 dX12_holds_147 ?_
      refine uu_icmp_ge (tgt := 155) dX12_holds_148 (by decide) (fun c26 => ?_) (fun c26 => ?_)
      · replace h := uu_pos c26 h
        refine uu_iconst (v := 0) dX12_holds_155 (by decide) ?_
        have hr := Option.some.inj h
        subst hr
        exact uu_zret (x := bI false) rfl (bI_z _) dX12_holds_156
      · replace h := uu_neg c26 h
        refine uu_iconst (v := 1) dX12_holds_151 (by decide) ?_
        refine uu_goto (tgt := 156) dX12_holds_152 (by decide) ?_
        have hr := Option.some.inj h
        subst hr
        exact uu_zret (x := bI true) rfl (bI_z _) dX12_holds_156
    · replace h := uu_pos c23 h
      refine uu_aload_n dX12_holds_117 rfl (List.mem_of_getElem? (i := 0) rfl) ?_
      refine uu_geti (ci := 12) (N := 153) fX12_75 (by decide) so_1079.is (by decide) (by decide) dX12_holds_118 ?_
      refine uu_aload_n dX12_holds_121 rfl (List.mem_of_getElem? (i := 0) rfl) ?_
      refine uu_geta (ci := 12) (N := 153) fX12_322 (by decide) so_1079.is (by decide) (c := 1113) (by decide) dX12_holds_122 ?_
      refine uu_iload_n dX12_holds_125 rfl (List.mem_of_getElem? (i := 1) rfl) ?_
      obtain ⟨v27, e28, h⟩ := uu_ob h
      refine uu_iald e28 dX12_holds_126 ?_
      refine uu_icmp_le (tgt := 134) dX12_holds_127 (by decide) (fun c29 => ?_) (fun c29 => ?_)
      · replace h := uu_pos c29 h
        refine uu_iconst (v := 0) dX12_holds_134 (by decide) ?_
        refine uu_goto (tgt := 156) dX12_holds_135 (by decide) ?_
        have hr := Option.some.inj h
        subst hr
        exact uu_zret (x := bI false) rfl (bI_z _) dX12_holds_156
      · replace h := uu_neg c29 h
        refine uu_iconst (v := 1) dX12_holds_130 (by decide) ?_
        refine uu_goto (tgt := 156) dX12_holds_131 (by decide) ?_
        have hr := Option.some.inj h
        subst hr
        exact uu_zret (x := bI true) rfl (bI_z _) dX12_holds_156
  replace h := uu_neg c16_5 h
  by_cases c16_6 : v1 = 26
  · replace h := uu_pos c16_6 h
    refine uu_tabE (tgt := 157) (off := 141) (v := 26) dX12_holds_16 c16_6 (by decide) (by decide) rfl (by decide) ?_
    refine uu_aload_n dX12_holds_157 rfl (List.mem_of_getElem? (i := 0) rfl) ?_
    refine uu_geta (ci := 12) (N := 153) fX12_285 (by decide) so_1079.is (by decide) (c := 1098) (by decide) dX12_holds_158 ?_
    refine uu_iload_n dX12_holds_161 rfl (List.mem_of_getElem? (i := 1) rfl) ?_
    obtain ⟨v30, e31, h⟩ := uu_ob h
    refine uu_iald e31 dX12_holds_162 ?_
    refine uu_bipush (v := 26) dX12_holds_163 (by decide) ?_
    refine uu_icmp_ne (tgt := 172) dX12_holds_165 (by decide) (fun c32 => ?_) (fun c32 => ?_)
    · replace h := uu_neg c32 h
      refine uu_iconst (v := 0) dX12_holds_172 (by decide) ?_
      refine uu_istore_n dX12_holds_173 rfl (by decide) rfl ?_
      refine uu_aload_n dX12_holds_174 rfl (List.mem_of_getElem? (i := 1) rfl) ?_
      refine uu_geta (ci := 12) (N := 153) fX12_288 (by decide) so_1079.is (by decide) (c := 1099) (by decide) dX12_holds_175 ?_
      refine uu_iload_n dX12_holds_178 rfl (List.mem_of_getElem? (i := 2) rfl) ?_
      obtain ⟨v33, e34, h⟩ := uu_ob h
      refine uu_iald e34 dX12_holds_179 ?_
      refine uu_istore_n dX12_holds_180 rfl (by decide) rfl ?_
      refine uu_lv [2, 1, 0] (lv' := [(0, .ref (B + 1079)), (2, .int 0), (3, .int v33)]) rfl ?_
      exact xn_X12_holds_181 uk un hR_X12_holds _ _ _ _ _ h
    · replace h := uu_pos c32 h
      refine uu_iconst (v := 1) dX12_holds_168 (by decide) ?_
      refine uu_goto (tgt := 173) dX12_holds_169 (by decide) ?_
      refine uu_istore_n dX12_holds_173 rfl (by decide) rfl ?_
      refine uu_aload_n dX12_holds_174 rfl (List.mem_of_getElem? (i := 1) rfl) ?_
      refine uu_geta (ci := 12) (N := 153) fX12_288 (by decide) so_1079.is (by decide) (c := 1099) (by decide) dX12_holds_175 ?_
      refine uu_iload_n dX12_holds_178 rfl (List.mem_of_getElem? (i := 2) rfl) ?_
      obtain ⟨v35, e36, h⟩ := uu_ob h
      refine uu_iald e36 dX12_holds_179 ?_
      refine uu_istore_n dX12_holds_180 rfl (by decide) rfl ?_
      refine uu_lv [2, 1, 0] (lv' := [(0, .ref (B + 1079)), (2, .int 1), (3, .int v35)]) rfl ?_
      exact xn_X12_holds_181 uk un hR_X12_holds _ _ _ _ _ h
  replace h := uu_neg c16_6 h
  by_cases c16_7 : v1 = 27
  · replace h := uu_pos c16_7 h
    refine uu_tabE (tgt := 157) (off := 141) (v := 27) dX12_holds_16 c16_7 (by decide) (by decide) rfl (by decide) ?_
    refine uu_aload_n dX12_holds_157 rfl (List.mem_of_getElem? (i := 0) rfl) ?_
    refine uu_geta (ci := 12) (N := 153) fX12_285 (by decide) so_1079.is (by decide) (c := 1098) (by decide) dX12_holds_158 ?_
    refine uu_iload_n dX12_holds_161 rfl (List.mem_of_getElem? (i := 1) rfl) ?_
    obtain ⟨v37, e38, h⟩ := uu_ob h
    refine uu_iald e38 dX12_holds_162 ?_
    refine uu_bipush (v := 26) dX12_holds_163 (by decide) ?_
    refine uu_icmp_ne (tgt := 172) dX12_holds_165 (by decide) (fun c39 => ?_) (fun c39 => ?_)
    · replace h := uu_neg c39 h
      refine uu_iconst (v := 0) dX12_holds_172 (by decide) ?_
      refine uu_istore_n dX12_holds_173 rfl (by decide) rfl ?_
      refine uu_aload_n dX12_holds_174 rfl (List.mem_of_getElem? (i := 1) rfl) ?_
      refine uu_geta (ci := 12) (N := 153) fX12_288 (by decide) so_1079.is (by decide) (c := 1099) (by decide) dX12_holds_175 ?_
      refine uu_iload_n dX12_holds_178 rfl (List.mem_of_getElem? (i := 2) rfl) ?_
      obtain ⟨v40, e41, h⟩ := uu_ob h
      refine uu_iald e41 dX12_holds_179 ?_
      refine uu_istore_n dX12_holds_180 rfl (by decide) rfl ?_
      refine uu_lv [2, 1, 0] (lv' := [(0, .ref (B + 1079)), (2, .int 0), (3, .int v40)]) rfl ?_
      exact xn_X12_holds_181 uk un hR_X12_holds _ _ _ _ _ h
    · replace h := uu_pos c39 h
      refine uu_iconst (v := 1) dX12_holds_168 (by decide) ?_
      refine uu_goto (tgt := 173) dX12_holds_169 (by decide) ?_
      refine uu_istore_n dX12_holds_173 rfl (by decide) rfl ?_
      refine uu_aload_n dX12_holds_174 rfl (List.mem_of_getElem? (i := 1) rfl) ?_
      refine uu_geta (ci := 12) (N := 153) fX12_288 (by decide) so_1079.is (by decide) (c := 1099) (by decide) dX12_holds_175 ?_
      refine uu_iload_n dX12_holds_178 rfl (List.mem_of_getElem? (i := 2) rfl) ?_
      obtain ⟨v42, e43, h⟩ := uu_ob h
      refine uu_iald e43 dX12_holds_179 ?_
      refine uu_istore_n dX12_holds_180 rfl (by decide) rfl ?_
      refine uu_lv [2, 1, 0] (lv' := [(0, .ref (B + 1079)), (2, .int 1), (3, .int v42)]) rfl ?_
      exact xn_X12_holds_181 uk un hR_X12_holds _ _ _ _ _ h
  replace h := uu_neg c16_7 h
  by_cases c16_8 : v1 = 28
  · replace h := uu_pos c16_8 h
    refine uu_tabE (tgt := 216) (off := 200) (v := 28) dX12_holds_16 c16_8 (by decide) (by decide) rfl (by decide) ?_
    refine uu_aload_n dX12_holds_216 rfl (List.mem_of_getElem? (i := 0) rfl) ?_
    refine uu_aload_n dX12_holds_217 rfl (List.mem_of_getElem? (i := 0) rfl) ?_
    refine uu_geta (ci := 12) (N := 153) fX12_288 (by decide) so_1079.is (by decide) (c := 1099) (by decide) dX12_holds_218 ?_
    refine uu_iload_n dX12_holds_221 rfl (List.mem_of_getElem? (i := 1) rfl) ?_
    obtain ⟨v44, e45, h⟩ := uu_ob h
    refine uu_iald e45 dX12_holds_222 ?_
    obtain ⟨r46, e47, h⟩ := uu_ob h
    refine uu_cv (d1 := 7 + n) (k := 1079) (ci := 12) (T := TX12) (N := 153) (As := [.int v44]) (st := []) (st' := [.int (bI r46.2)]) (hR_X12_holds _ _ _ e47) so_1079.is (by decide) rfl kX12_holds lX12_725 sX12_holds (by omega) (Nat.le_of_ble_eq_true rfl) dX12_holds_223 rfl ?_
    refine uu_ifb_ne (tgt := 233) dX12_holds_226 (by decide) (fun c48 => ?_) (fun c48 => ?_)
    · replace h := uu_pos c48 h
      refine uu_iconst (v := 0) dX12_holds_233 (by decide) ?_
      have hr := Option.some.inj h
      subst hr
      exact uu_zret (x := bI false) rfl (bI_z _) dX12_holds_234
    · replace h := uu_neg c48 h
      refine uu_iconst (v := 1) dX12_holds_229 (by decide) ?_
      refine uu_goto (tgt := 234) dX12_holds_230 (by decide) ?_
      have hr := Option.some.inj h
      subst hr
      exact uu_zret (x := bI true) rfl (bI_z _) dX12_holds_234
  replace h := uu_neg c16_8 h
  have cx16 : (v1).toInt < 20 ∨ 28 < (v1).toInt := by
    refine Decidable.byContradiction fun q => ?_
    rcases (show (v1).toInt = 20 ∨ (v1).toInt = 21 ∨ (v1).toInt = 22 ∨ (v1).toInt = 23 ∨ (v1).toInt = 24 ∨ (v1).toInt = 25 ∨ (v1).toInt = 26 ∨ (v1).toInt = 27 ∨ (v1).toInt = 28 by omega) with q | q | q | q | q | q | q | q | q
    · exact c16_0 (sw_eq q (by decide))
    · exact c16_1 (sw_eq q (by decide))
    · exact c16_2 (sw_eq q (by decide))
    · exact c16_3 (sw_eq q (by decide))
    · exact c16_4 (sw_eq q (by decide))
    · exact c16_5 (sw_eq q (by decide))
    · exact c16_6 (sw_eq q (by decide))
    · exact c16_7 (sw_eq q (by decide))
    · exact c16_8 (sw_eq q (by decide))
  refine uu_tableOut (tgt := 235) dX12_holds_16 cx16 (by decide) ?_
  refine uu_aload_n dX12_holds_235 rfl (List.mem_of_getElem? (i := 0) rfl) ?_
  refine uu_geta (ci := 12) (N := 153) fX12_285 (by decide) so_1079.is (by decide) (c := 1098) (by decide) dX12_holds_236 ?_
  refine uu_iload_n dX12_holds_239 rfl (List.mem_of_getElem? (i := 1) rfl) ?_
  obtain ⟨v49, e50, h⟩ := uu_ob h
  refine uu_iald e50 dX12_holds_240 ?_
  refine uu_bipush (v := 29) dX12_holds_241 (by decide) ?_
  refine uu_icmp_ne (tgt := 250) dX12_holds_243 (by decide) (fun c51 => ?_) (fun c51 => ?_)
  · replace h := uu_neg c51 h
    refine uu_iconst (v := 0) dX12_holds_250 (by decide) ?_
    have hr := Option.some.inj h
    subst hr
    exact uu_zret (x := bI false) rfl (bI_z _) dX12_holds_251
  · replace h := uu_pos c51 h
    refine uu_iconst (v := 1) dX12_holds_246 (by decide) ?_
    refine uu_goto (tgt := 251) dX12_holds_247 (by decide) ?_
    have hr := Option.some.inj h
    subst hr
    exact uu_zret (x := bI true) rfl (bI_z _) dX12_holds_251
def fg_1 : Nat → (Int32 → uS → Option (uS × Bool))
  | 0 => (fun _ _ => none)
  | n + 1 => (fn_X12_holds ((fg_1 n)))
set_option maxRecDepth 100000 in
set_option maxHeartbeats 4000000 in
theorem xg_1 {l : Launch} {D : va_G} {A : Nat → ClassId} {B : Nat} {Z : State → Heap → Prop} {vF : Value} (uk : uK B Z vF) (un : uX A B Z) : ∀ n : Nat, (∀ (x1 : Int32) (s : uS) (r : (uS × Bool)), (fg_1 n) x1 s = some r → CU l D A B Z (7 + n) mX12_holds s [.ref (B + 1079), .int x1] (r.1, some (.int (bI r.2)))) := by
  intro n
  induction n with
  | zero => exact fun x1 s r h => (by cases h)
  | succ n ih => exact fun x1 s r h => xc_X12_holds uk un ih h
abbrev mX12_command1 : hM := (yX12_command1, cX12_command1, 4, none)
abbrev mX12_run : hM := (yX12_run, cX12_run, 3, none)
theorem dX12_run_7 : decode cX12_run 7 = .ok (.iload_n 2, 1) := by decide +kernel
theorem dX12_run_8 : decode cX12_run 8 = .ok (.ifCond .lt 25, 3) := by decide +kernel
theorem dX12_run_33 : decode cX12_run 33 = .ok (.return_, 1) := by decide +kernel
theorem dX12_run_11 : decode cX12_run 11 = .ok (.aload_n 0, 1) := by decide +kernel
theorem dX12_run_12 : decode cX12_run 12 = .ok (.getfield 728, 3) := by decide +kernel
theorem dX12_run_15 : decode cX12_run 15 = .ok (.ifCond .ne 18, 3) := by decide +kernel
theorem dX12_run_18 : decode cX12_run 18 = .ok (.aload_n 0, 1) := by decide +kernel
theorem dX12_run_19 : decode cX12_run 19 = .ok (.iload_n 2, 1) := by decide +kernel
theorem kX12_command1 : h_ml mX12_command1 1 := ⟨h_t9 82 rfl rfl, h_t1 16 rfl rfl, ⟨by decide, by decide, by decide +kernel⟩, by decide⟩
theorem lX12_731 : Cond.methodLink RX12 731 mX12_command1.1 ∈ lw_g := h_t9 79 rfl rfl
theorem sX12_command1 : Cond.instanceMethod mX12_command1.1 ∈ lw_g ∧ Cond.selects mX12_command1.1.cls mX12_command1.1 mX12_command1.1 ∈ lw_g := ⟨h_t9 81 rfl rfl, h_ins 164 rfl⟩
theorem dX12_run_20 : decode cX12_run 20 = .ok (.invokevirtual 731, 3) := by decide +kernel
theorem dX12_run_23 : decode cX12_run 23 = .ok (.aload_n 0, 1) := by decide +kernel
theorem dX12_run_24 : decode cX12_run 24 = .ok (.getfield 294, 3) := by decide +kernel
theorem dX12_run_27 : decode cX12_run 27 = .ok (.iload_n 2, 1) := by decide +kernel
theorem dX12_run_28 : decode cX12_run 28 = .ok (.iaload, 1) := by decide +kernel
theorem dX12_run_29 : decode cX12_run 29 = .ok (.istore_n 2, 1) := by decide +kernel
theorem dX12_run_30 : decode cX12_run 30 = .ok (.goto (-23), 3) := by decide +kernel
theorem dX12_run_0 : decode cX12_run 0 = .ok (.aload_n 0, 1) := by decide +kernel
theorem dX12_run_1 : decode cX12_run 1 = .ok (.getfield 288, 3) := by decide +kernel
theorem dX12_run_4 : decode cX12_run 4 = .ok (.iload_n 1, 1) := by decide +kernel
theorem dX12_run_5 : decode cX12_run 5 = .ok (.iaload, 1) := by decide +kernel
theorem dX12_run_6 : decode cX12_run 6 = .ok (.istore_n 2, 1) := by decide +kernel
abbrev mX12_choose : hM := (yX12_choose, cX12_choose, 4, none)
theorem kX12_file1 : h_ml mX12_file1 2 := ⟨h_t9 238 rfl rfl, h_t1 16 rfl rfl, ⟨by decide, by decide, by decide +kernel⟩, by decide⟩
theorem lX12_743 : Cond.methodLink RX12 743 mX12_file1.1 ∈ lw_g := h_t9 235 rfl rfl
theorem sX12_file1 : Cond.instanceMethod mX12_file1.1 ∈ lw_g ∧ Cond.selects mX12_file1.1.cls mX12_file1.1 mX12_file1.1 ∈ lw_g := ⟨h_t9 237 rfl rfl, h_ins 197 rfl⟩
theorem dX12_command1_142 : decode cX12_command1 142 = .ok (.invokevirtual 743, 3) := by decide +kernel
theorem dX12_command1_145 : decode cX12_command1 145 = .ok (.aload_n 0, 1) := by decide +kernel
theorem dX12_command1_146 : decode cX12_command1 146 = .ok (.aload_n 0, 1) := by decide +kernel
theorem dX12_command1_147 : decode cX12_command1 147 = .ok (.getfield 737, 3) := by decide +kernel
theorem dX12_command1_150 : decode cX12_command1 150 = .ok (.ifCond .eq 16, 3) := by decide +kernel
theorem dX12_command1_166 : decode cX12_command1 166 = .ok (.iconst 0, 1) := by decide +kernel
theorem dX12_command1_167 : decode cX12_command1 167 = .ok (.putfield 737, 3) := by decide +kernel
theorem dX12_command1_170 : decode cX12_command1 170 = .ok (.aload_n 0, 1) := by decide +kernel
theorem dX12_command1_171 : decode cX12_command1 171 = .ok (.iconst 1, 1) := by decide +kernel
theorem dX12_command1_172 : decode cX12_command1 172 = .ok (.putfield 746, 3) := by decide +kernel
theorem dX12_command1_175 : decode cX12_command1 175 = .ok (.return_, 1) := by decide +kernel
theorem dX12_command1_153 : decode cX12_command1 153 = .ok (.aload_n 0, 1) := by decide +kernel
theorem dX12_command1_154 : decode cX12_command1 154 = .ok (.getfield 306, 3) := by decide +kernel
theorem dX12_command1_157 : decode cX12_command1 157 = .ok (.iload_n 1, 1) := by decide +kernel
theorem dX12_command1_158 : decode cX12_command1 158 = .ok (.baload, 1) := by decide +kernel
theorem dX12_command1_159 : decode cX12_command1 159 = .ok (.ifCond .eq 7, 3) := by decide +kernel
theorem dX12_command1_162 : decode cX12_command1 162 = .ok (.iconst 1, 1) := by decide +kernel
theorem dX12_command1_163 : decode cX12_command1 163 = .ok (.goto 4, 3) := by decide +kernel
theorem dX12_command1_106 : decode cX12_command1 106 = .ok (.istore_n 2, 1) := by decide +kernel
theorem dX12_command1_107 : decode cX12_command1 107 = .ok (.aload_n 0, 1) := by decide +kernel
theorem dX12_command1_108 : decode cX12_command1 108 = .ok (.iload_n 2, 1) := by decide +kernel
theorem dX12_command1_109 : decode cX12_command1 109 = .ok (.aload_n 0, 1) := by decide +kernel
theorem dX12_command1_110 : decode cX12_command1 110 = .ok (.getfield 303, 3) := by decide +kernel
theorem dX12_command1_113 : decode cX12_command1 113 = .ok (.iload_n 1, 1) := by decide +kernel
theorem dX12_command1_114 : decode cX12_command1 114 = .ok (.iaload, 1) := by decide +kernel
theorem dX12_command1_115 : decode cX12_command1 115 = .ok (.iconst (-1), 1) := by decide +kernel
theorem dX12_command1_116 : decode cX12_command1 116 = .ok (.if_icmp .ne 10, 3) := by decide +kernel
theorem dX12_command1_126 : decode cX12_command1 126 = .ok (.aload_n 0, 1) := by decide +kernel
theorem dX12_command1_127 : decode cX12_command1 127 = .ok (.aload_n 0, 1) := by decide +kernel
theorem dX12_command1_128 : decode cX12_command1 128 = .ok (.getfield 303, 3) := by decide +kernel
theorem dX12_command1_131 : decode cX12_command1 131 = .ok (.iload_n 1, 1) := by decide +kernel
theorem dX12_command1_132 : decode cX12_command1 132 = .ok (.iaload, 1) := by decide +kernel
theorem dX12_command1_133 : decode cX12_command1 133 = .ok (.aload_n 0, 1) := by decide +kernel
theorem dX12_command1_134 : decode cX12_command1 134 = .ok (.getfield 463, 3) := by decide +kernel
theorem dX12_command1_137 : decode cX12_command1 137 = .ok (.iload_n 1, 1) := by decide +kernel
theorem dX12_command1_138 : decode cX12_command1 138 = .ok (.iaload, 1) := by decide +kernel
theorem kX12_flagsOf : h_ml mX12_flagsOf 2 := ⟨h_t9 225 rfl rfl, h_t1 16 rfl rfl, ⟨by decide, by decide, by decide +kernel⟩, by decide⟩
theorem lX12_740 : Cond.methodLink RX12 740 mX12_flagsOf.1 ∈ lw_g := h_t9 222 rfl rfl
theorem sX12_flagsOf : Cond.instanceMethod mX12_flagsOf.1 ∈ lw_g ∧ Cond.selects mX12_flagsOf.1.cls mX12_flagsOf.1 mX12_flagsOf.1 ∈ lw_g := ⟨h_t9 224 rfl rfl, h_ins 195 rfl⟩
theorem dX12_command1_139 : decode cX12_command1 139 = .ok (.invokevirtual 740, 3) := by decide +kernel
theorem dX12_command1_119 : decode cX12_command1 119 = .ok (.aload_n 0, 1) := by decide +kernel
theorem dX12_command1_120 : decode cX12_command1 120 = .ok (.getfield 700, 3) := by decide +kernel
theorem dX12_command1_123 : decode cX12_command1 123 = .ok (.goto 19, 3) := by decide +kernel
theorem dX12_command1_0 : decode cX12_command1 0 = .ok (.aload_n 0, 1) := by decide +kernel
theorem dX12_command1_1 : decode cX12_command1 1 = .ok (.getfield 285, 3) := by decide +kernel
theorem dX12_command1_4 : decode cX12_command1 4 = .ok (.iload_n 1, 1) := by decide +kernel
theorem dX12_command1_5 : decode cX12_command1 5 = .ok (.iaload, 1) := by decide +kernel
theorem dX12_command1_6 : decode cX12_command1 6 = .ok (.tableswitch 248 0 11 #[62, 248, 68, 74, 80, 80, 170, 211, 248, 248, 248, 232], 62) := by decide +kernel
theorem dX12_command1_68 : decode cX12_command1 68 = .ok (.aload_n 0, 1) := by decide +kernel
theorem dX12_command1_69 : decode cX12_command1 69 = .ok (.iload_n 1, 1) := by decide +kernel
theorem kX12_choose : h_ml mX12_choose 1 := ⟨h_t9 86 rfl rfl, h_t1 16 rfl rfl, ⟨by decide, by decide, by decide +kernel⟩, by decide⟩
theorem lX12_734 : Cond.methodLink RX12 734 mX12_choose.1 ∈ lw_g := h_t9 83 rfl rfl
theorem sX12_choose : Cond.instanceMethod mX12_choose.1 ∈ lw_g ∧ Cond.selects mX12_choose.1.cls mX12_choose.1 mX12_choose.1 ∈ lw_g := ⟨h_t9 85 rfl rfl, h_ins 165 rfl⟩
theorem dX12_command1_70 : decode cX12_command1 70 = .ok (.invokevirtual 734, 3) := by decide +kernel
theorem dX12_command1_73 : decode cX12_command1 73 = .ok (.return_, 1) := by decide +kernel
theorem dX12_command1_254 : decode cX12_command1 254 = .ok (.aload_n 0, 1) := by decide +kernel
theorem dX12_command1_255 : decode cX12_command1 255 = .ok (.aload_n 0, 1) := by decide +kernel
theorem dX12_command1_256 : decode cX12_command1 256 = .ok (.getfield 439, 3) := by decide +kernel
theorem dX12_command1_259 : decode cX12_command1 259 = .ok (.iload_n 1, 1) := by decide +kernel
theorem dX12_command1_260 : decode cX12_command1 260 = .ok (.iaload, 1) := by decide +kernel
theorem dX12_command1_261 : decode cX12_command1 261 = .ok (.aload_n 0, 1) := by decide +kernel
theorem dX12_command1_262 : decode cX12_command1 262 = .ok (.getfield 297, 3) := by decide +kernel
theorem dX12_command1_265 : decode cX12_command1 265 = .ok (.iload_n 1, 1) := by decide +kernel
theorem dX12_command1_266 : decode cX12_command1 266 = .ok (.iaload, 1) := by decide +kernel
theorem dX12_command1_267 : decode cX12_command1 267 = .ok (.invokevirtual 740, 3) := by decide +kernel
theorem dX12_command1_270 : decode cX12_command1 270 = .ok (.istore_n 3, 1) := by decide +kernel
theorem dX12_command1_271 : decode cX12_command1 271 = .ok (.aload_n 0, 1) := by decide +kernel
theorem dX12_command1_272 : decode cX12_command1 272 = .ok (.aload_n 0, 1) := by decide +kernel
theorem dX12_command1_273 : decode cX12_command1 273 = .ok (.getfield 285, 3) := by decide +kernel
theorem dX12_command1_276 : decode cX12_command1 276 = .ok (.iload_n 1, 1) := by decide +kernel
theorem dX12_command1_277 : decode cX12_command1 277 = .ok (.iaload, 1) := by decide +kernel
theorem dX12_command1_278 : decode cX12_command1 278 = .ok (.bipush 8, 2) := by decide +kernel
theorem dX12_command1_280 : decode cX12_command1 280 = .ok (.if_icmp .ne 7, 3) := by decide +kernel
theorem dX12_command1_287 : decode cX12_command1 287 = .ok (.aload_n 0, 1) := by decide +kernel
theorem dX12_command1_288 : decode cX12_command1 288 = .ok (.getfield 285, 3) := by decide +kernel
theorem dX12_command1_291 : decode cX12_command1 291 = .ok (.iload_n 1, 1) := by decide +kernel
theorem dX12_command1_292 : decode cX12_command1 292 = .ok (.iaload, 1) := by decide +kernel
theorem dX12_command1_293 : decode cX12_command1 293 = .ok (.bipush 9, 2) := by decide +kernel
theorem dX12_command1_295 : decode cX12_command1 295 = .ok (.if_icmp .ne 12, 3) := by decide +kernel
theorem dX12_command1_307 : decode cX12_command1 307 = .ok (.aload_n 0, 1) := by decide +kernel
theorem dX12_command1_308 : decode cX12_command1 308 = .ok (.getfield 700, 3) := by decide +kernel
theorem dX12_command1_311 : decode cX12_command1 311 = .ok (.iload_n 3, 1) := by decide +kernel
theorem dX12_command1_312 : decode cX12_command1 312 = .ok (.iconst (-1), 1) := by decide +kernel
theorem dX12_command1_313 : decode cX12_command1 313 = .ok (.ixor, 1) := by decide +kernel
theorem dX12_command1_314 : decode cX12_command1 314 = .ok (.iand, 1) := by decide +kernel
theorem dX12_command1_315 : decode cX12_command1 315 = .ok (.putfield 700, 3) := by decide +kernel
theorem dX12_command1_318 : decode cX12_command1 318 = .ok (.return_, 1) := by decide +kernel
theorem dX12_command1_298 : decode cX12_command1 298 = .ok (.aload_n 0, 1) := by decide +kernel
theorem dX12_command1_299 : decode cX12_command1 299 = .ok (.getfield 700, 3) := by decide +kernel
theorem dX12_command1_302 : decode cX12_command1 302 = .ok (.iload_n 3, 1) := by decide +kernel
theorem dX12_command1_303 : decode cX12_command1 303 = .ok (.ior, 1) := by decide +kernel
theorem dX12_command1_304 : decode cX12_command1 304 = .ok (.goto 11, 3) := by decide +kernel
theorem dX12_command1_283 : decode cX12_command1 283 = .ok (.iload_n 3, 1) := by decide +kernel
theorem dX12_command1_284 : decode cX12_command1 284 = .ok (.goto 31, 3) := by decide +kernel
theorem dX12_command1_74 : decode cX12_command1 74 = .ok (.aload_n 0, 1) := by decide +kernel
theorem dX12_command1_75 : decode cX12_command1 75 = .ok (.iconst 1, 1) := by decide +kernel
theorem dX12_command1_76 : decode cX12_command1 76 = .ok (.putfield 728, 3) := by decide +kernel
theorem dX12_command1_79 : decode cX12_command1 79 = .ok (.return_, 1) := by decide +kernel
theorem dX12_command1_80 : decode cX12_command1 80 = .ok (.aload_n 0, 1) := by decide +kernel
theorem dX12_command1_81 : decode cX12_command1 81 = .ok (.iconst 0, 1) := by decide +kernel
theorem dX12_command1_82 : decode cX12_command1 82 = .ok (.putfield 737, 3) := by decide +kernel
theorem dX12_command1_85 : decode cX12_command1 85 = .ok (.return_, 1) := by decide +kernel
theorem dX12_command1_86 : decode cX12_command1 86 = .ok (.aload_n 0, 1) := by decide +kernel
theorem dX12_command1_87 : decode cX12_command1 87 = .ok (.getfield 285, 3) := by decide +kernel
theorem dX12_command1_90 : decode cX12_command1 90 = .ok (.iload_n 1, 1) := by decide +kernel
theorem dX12_command1_91 : decode cX12_command1 91 = .ok (.iaload, 1) := by decide +kernel
theorem dX12_command1_92 : decode cX12_command1 92 = .ok (.iconst 4, 1) := by decide +kernel
theorem dX12_command1_93 : decode cX12_command1 93 = .ok (.if_icmp .ne 7, 3) := by decide +kernel
theorem dX12_command1_100 : decode cX12_command1 100 = .ok (.aload_n 0, 1) := by decide +kernel
theorem dX12_command1_101 : decode cX12_command1 101 = .ok (.getfield 439, 3) := by decide +kernel
theorem dX12_command1_104 : decode cX12_command1 104 = .ok (.iload_n 1, 1) := by decide +kernel
theorem dX12_command1_105 : decode cX12_command1 105 = .ok (.iaload, 1) := by decide +kernel
theorem dX12_command1_96 : decode cX12_command1 96 = .ok (.iconst (-1), 1) := by decide +kernel
theorem dX12_command1_97 : decode cX12_command1 97 = .ok (.goto 9, 3) := by decide +kernel
theorem dX12_command1_176 : decode cX12_command1 176 = .ok (.aload_n 0, 1) := by decide +kernel
theorem dX12_command1_177 : decode cX12_command1 177 = .ok (.aload_n 0, 1) := by decide +kernel
theorem dX12_command1_178 : decode cX12_command1 178 = .ok (.getfield 439, 3) := by decide +kernel
theorem dX12_command1_181 : decode cX12_command1 181 = .ok (.iload_n 1, 1) := by decide +kernel
theorem dX12_command1_182 : decode cX12_command1 182 = .ok (.iaload, 1) := by decide +kernel
theorem kX12_redirect1 : h_ml mX12_redirect1 1 := ⟨h_t10 15 rfl rfl, h_t1 16 rfl rfl, ⟨by decide, by decide, by decide +kernel⟩, by decide⟩
theorem lX12_749 : Cond.methodLink RX12 749 mX12_redirect1.1 ∈ lw_g := h_t10 12 rfl rfl
theorem sX12_redirect1 : Cond.instanceMethod mX12_redirect1.1 ∈ lw_g ∧ Cond.selects mX12_redirect1.1.cls mX12_redirect1.1 mX12_redirect1.1 ∈ lw_g := ⟨h_t10 14 rfl rfl, h_ins 201 rfl⟩
theorem dX12_command1_183 : decode cX12_command1 183 = .ok (.invokevirtual 749, 3) := by decide +kernel
theorem dX12_command1_186 : decode cX12_command1 186 = .ok (.aload_n 0, 1) := by decide +kernel
theorem dX12_command1_187 : decode cX12_command1 187 = .ok (.aload_n 0, 1) := by decide +kernel
theorem dX12_command1_188 : decode cX12_command1 188 = .ok (.getfield 737, 3) := by decide +kernel
theorem dX12_command1_191 : decode cX12_command1 191 = .ok (.ifCond .eq 16, 3) := by decide +kernel
theorem dX12_command1_207 : decode cX12_command1 207 = .ok (.iconst 0, 1) := by decide +kernel
theorem dX12_command1_208 : decode cX12_command1 208 = .ok (.putfield 737, 3) := by decide +kernel
theorem dX12_command1_211 : decode cX12_command1 211 = .ok (.aload_n 0, 1) := by decide +kernel
theorem dX12_command1_212 : decode cX12_command1 212 = .ok (.iconst 1, 1) := by decide +kernel
theorem dX12_command1_213 : decode cX12_command1 213 = .ok (.putfield 746, 3) := by decide +kernel
theorem dX12_command1_216 : decode cX12_command1 216 = .ok (.return_, 1) := by decide +kernel
theorem dX12_command1_194 : decode cX12_command1 194 = .ok (.aload_n 0, 1) := by decide +kernel
theorem dX12_command1_195 : decode cX12_command1 195 = .ok (.getfield 306, 3) := by decide +kernel
theorem dX12_command1_198 : decode cX12_command1 198 = .ok (.iload_n 1, 1) := by decide +kernel
theorem dX12_command1_199 : decode cX12_command1 199 = .ok (.baload, 1) := by decide +kernel
theorem dX12_command1_200 : decode cX12_command1 200 = .ok (.ifCond .eq 7, 3) := by decide +kernel
theorem dX12_command1_203 : decode cX12_command1 203 = .ok (.iconst 1, 1) := by decide +kernel
theorem dX12_command1_204 : decode cX12_command1 204 = .ok (.goto 4, 3) := by decide +kernel
theorem dX12_command1_217 : decode cX12_command1 217 = .ok (.aload_n 0, 1) := by decide +kernel
theorem dX12_command1_218 : decode cX12_command1 218 = .ok (.aload_n 0, 1) := by decide +kernel
theorem dX12_command1_219 : decode cX12_command1 219 = .ok (.getfield 752, 3) := by decide +kernel
theorem dX12_command1_222 : decode cX12_command1 222 = .ok (.iconst 1, 1) := by decide +kernel
theorem dX12_command1_223 : decode cX12_command1 223 = .ok (.iadd, 1) := by decide +kernel
theorem dX12_command1_224 : decode cX12_command1 224 = .ok (.putfield 752, 3) := by decide +kernel
theorem dX12_command1_227 : decode cX12_command1 227 = .ok (.aload_n 0, 1) := by decide +kernel
theorem dX12_command1_228 : decode cX12_command1 228 = .ok (.iload_n 1, 1) := by decide +kernel
theorem dX12_command1_229 : decode cX12_command1 229 = .ok (.putfield 755, 3) := by decide +kernel
theorem dX12_command1_232 : decode cX12_command1 232 = .ok (.aload_n 0, 1) := by decide +kernel
theorem dX12_command1_233 : decode cX12_command1 233 = .ok (.iconst 0, 1) := by decide +kernel
theorem dX12_command1_234 : decode cX12_command1 234 = .ok (.putfield 737, 3) := by decide +kernel
theorem dX12_command1_237 : decode cX12_command1 237 = .ok (.return_, 1) := by decide +kernel
theorem dX12_command1_238 : decode cX12_command1 238 = .ok (.aload_n 0, 1) := by decide +kernel
theorem dX12_command1_239 : decode cX12_command1 239 = .ok (.aload_n 0, 1) := by decide +kernel
theorem dX12_command1_240 : decode cX12_command1 240 = .ok (.getfield 758, 3) := by decide +kernel
theorem dX12_command1_243 : decode cX12_command1 243 = .ok (.iconst 1, 1) := by decide +kernel
theorem dX12_command1_244 : decode cX12_command1 244 = .ok (.iadd, 1) := by decide +kernel
theorem dX12_command1_245 : decode cX12_command1 245 = .ok (.putfield 758, 3) := by decide +kernel
theorem dX12_command1_248 : decode cX12_command1 248 = .ok (.aload_n 0, 1) := by decide +kernel
theorem dX12_command1_249 : decode cX12_command1 249 = .ok (.iload_n 1, 1) := by decide +kernel
theorem dX12_command1_250 : decode cX12_command1 250 = .ok (.putfield 761, 3) := by decide +kernel
theorem dX12_command1_253 : decode cX12_command1 253 = .ok (.return_, 1) := by decide +kernel
theorem dX12_choose_45 : decode cX12_choose 45 = .ok (.istore_n 2, 1) := by decide +kernel
theorem dX12_choose_46 : decode cX12_choose 46 = .ok (.iload_n 2, 1) := by decide +kernel
theorem dX12_choose_47 : decode cX12_choose 47 = .ok (.ifCond .eq 13, 3) := by decide +kernel
theorem dX12_choose_60 : decode cX12_choose 60 = .ok (.aload_n 0, 1) := by decide +kernel
theorem dX12_choose_61 : decode cX12_choose 61 = .ok (.getfield 294, 3) := by decide +kernel
theorem dX12_choose_64 : decode cX12_choose 64 = .ok (.iload_n 3, 1) := by decide +kernel
theorem dX12_choose_65 : decode cX12_choose 65 = .ok (.iaload, 1) := by decide +kernel
theorem dX12_choose_66 : decode cX12_choose 66 = .ok (.istore_n 3, 1) := by decide +kernel
theorem dX12_choose_67 : decode cX12_choose 67 = .ok (.goto (-58), 3) := by decide +kernel
theorem dX12_choose_50 : decode cX12_choose 50 = .ok (.aload_n 0, 1) := by decide +kernel
theorem dX12_choose_51 : decode cX12_choose 51 = .ok (.aload_n 0, 1) := by decide +kernel
theorem dX12_choose_52 : decode cX12_choose 52 = .ok (.getfield 454, 3) := by decide +kernel
theorem dX12_choose_55 : decode cX12_choose 55 = .ok (.iload_n 3, 1) := by decide +kernel
theorem dX12_choose_56 : decode cX12_choose 56 = .ok (.iaload, 1) := by decide +kernel
theorem kX12_run : h_ml mX12_run 1 := ⟨h_t9 78 rfl rfl, h_t1 16 rfl rfl, ⟨by decide, by decide, by decide +kernel⟩, by decide⟩
theorem lX12_764 : Cond.methodLink RX12 764 mX12_run.1 ∈ lw_g := h_t9 75 rfl rfl
theorem sX12_run : Cond.instanceMethod mX12_run.1 ∈ lw_g ∧ Cond.selects mX12_run.1.cls mX12_run.1 mX12_run.1 ∈ lw_g := ⟨h_t9 77 rfl rfl, h_ins 163 rfl⟩
theorem dX12_choose_57 : decode cX12_choose 57 = .ok (.invokevirtual 764, 3) := by decide +kernel
theorem dX12_choose_9 : decode cX12_choose 9 = .ok (.iload_n 3, 1) := by decide +kernel
theorem dX12_choose_10 : decode cX12_choose 10 = .ok (.ifCond .lt 60, 3) := by decide +kernel
theorem dX12_choose_70 : decode cX12_choose 70 = .ok (.return_, 1) := by decide +kernel
theorem dX12_choose_13 : decode cX12_choose 13 = .ok (.iload_n 2, 1) := by decide +kernel
theorem dX12_choose_14 : decode cX12_choose 14 = .ok (.ifCond .ne 56, 3) := by decide +kernel
theorem dX12_choose_17 : decode cX12_choose 17 = .ok (.aload_n 0, 1) := by decide +kernel
theorem dX12_choose_18 : decode cX12_choose 18 = .ok (.getfield 439, 3) := by decide +kernel
theorem dX12_choose_21 : decode cX12_choose 21 = .ok (.iload_n 3, 1) := by decide +kernel
theorem dX12_choose_22 : decode cX12_choose 22 = .ok (.iaload, 1) := by decide +kernel
theorem dX12_choose_23 : decode cX12_choose 23 = .ok (.iconst (-1), 1) := by decide +kernel
theorem dX12_choose_24 : decode cX12_choose 24 = .ok (.if_icmp .eq 16, 3) := by decide +kernel
theorem dX12_choose_40 : decode cX12_choose 40 = .ok (.iconst 1, 1) := by decide +kernel
theorem dX12_choose_41 : decode cX12_choose 41 = .ok (.goto 4, 3) := by decide +kernel
theorem dX12_choose_27 : decode cX12_choose 27 = .ok (.aload_n 0, 1) := by decide +kernel
theorem dX12_choose_28 : decode cX12_choose 28 = .ok (.aload_n 0, 1) := by decide +kernel
theorem dX12_choose_29 : decode cX12_choose 29 = .ok (.getfield 439, 3) := by decide +kernel
theorem dX12_choose_32 : decode cX12_choose 32 = .ok (.iload_n 3, 1) := by decide +kernel
theorem dX12_choose_33 : decode cX12_choose 33 = .ok (.iaload, 1) := by decide +kernel
theorem dX12_choose_34 : decode cX12_choose 34 = .ok (.invokevirtual 725, 3) := by decide +kernel
theorem dX12_choose_37 : decode cX12_choose 37 = .ok (.ifCond .eq 7, 3) := by decide +kernel
theorem dX12_choose_44 : decode cX12_choose 44 = .ok (.iconst 0, 1) := by decide +kernel
theorem dX12_choose_0 : decode cX12_choose 0 = .ok (.iconst 0, 1) := by decide +kernel
theorem dX12_choose_1 : decode cX12_choose 1 = .ok (.istore_n 2, 1) := by decide +kernel
theorem dX12_choose_2 : decode cX12_choose 2 = .ok (.aload_n 0, 1) := by decide +kernel
theorem dX12_choose_3 : decode cX12_choose 3 = .ok (.getfield 288, 3) := by decide +kernel
theorem dX12_choose_6 : decode cX12_choose 6 = .ok (.iload_n 1, 1) := by decide +kernel
theorem dX12_choose_7 : decode cX12_choose 7 = .ok (.iaload, 1) := by decide +kernel
theorem dX12_choose_8 : decode cX12_choose 8 = .ok (.istore_n 3, 1) := by decide +kernel
def fb_X12_run_7 (R_X12_command1 : Int32 → uS → Option uS) (K7 : Int32 → uS → Option uS) (x2 : Int32) (s : uS) : Option uS := if x2 < 0 then (some s) else (if (s.I 1079 96) = 0 then ((R_X12_command1 x2 s).bind fun s3 => (iget 20 s3 1101 x2).bind fun v5 => K7 v5 s3) else (some s))
set_option maxRecDepth 100000 in
set_option maxHeartbeats 4000000 in
theorem xb_X12_run_7 {l : Launch} {D : va_G} {A : Nat → ClassId} {B : Nat} {Z : State → Heap → Prop} {vF : Value} (uk : uK B Z vF) (un : uX A B Z) {n : Nat} {R_X12_command1 : Int32 → uS → Option uS} {K7 : Int32 → uS → Option uS} (hR_X12_command1 : ∀ (x1 : Int32) (s : uS) (r : uS), R_X12_command1 x1 s = some r → CU l D A B Z (48 + n) mX12_command1 s [.ref (B + 1079), .int x1] (r, none)) (hK7 : ∀ (x2 : Int32)  (s : uS) (r : uS), K7 x2 s = some r → GU l D A B Z mX12_run (48 + (n + 1)) (r, none) s 7 [(0, .ref (B + 1079)), (2, .int x2)] []) {x2 : Int32} {s : uS} {r : uS}  (h : fb_X12_run_7 R_X12_command1 K7 x2 s = some r) : GU l D A B Z mX12_run (48 + (n + 1)) (r, none) s 7 [(0, .ref (B + 1079)), (2, .int x2)] [] := by
  unfold fb_X12_run_7 at h
  refine uu_iload_n dX12_run_7 rfl (List.mem_of_getElem? (i := 1) rfl) ?_
  refine uu_if_lt (tgt := 33) dX12_run_8 (by decide) (fun c1 => ?_) (fun c1 => ?_)
  · replace h := uu_pos c1 h
    have hr := Option.some.inj h
    subst hr
    exact uu_vret rfl dX12_run_33
  · replace h := uu_neg c1 h
    refine uu_aload_n dX12_run_11 rfl (List.mem_of_getElem? (i := 0) rfl) ?_
    refine uu_geti (ci := 12) (N := 153) fX12_728 (by decide) so_1079.is (by decide) (by decide) dX12_run_12 ?_
    refine uu_if_ne (tgt := 33) dX12_run_15 (by decide) (fun c2 => ?_) (fun c2 => ?_)
    · replace h := uu_neg c2 h
      have hr := Option.some.inj h
      subst hr
      exact uu_vret rfl dX12_run_33
    · replace h := uu_pos c2 h
      refine uu_aload_n dX12_run_18 rfl (List.mem_of_getElem? (i := 0) rfl) ?_
      refine uu_iload_n dX12_run_19 rfl (List.mem_of_getElem? (i := 1) rfl) ?_
      obtain ⟨s3, e4, h⟩ := uu_ob h
      refine uu_cv (d1 := 48 + n) (k := 1079) (ci := 12) (T := TX12) (N := 153) (As := [.int x2]) (st := []) (st' := []) (hR_X12_command1 _ _ _ e4) so_1079.is (by decide) rfl kX12_command1 lX12_731 sX12_command1 (by omega) (Nat.le_of_ble_eq_true rfl) dX12_run_20 rfl ?_
      refine uu_aload_n dX12_run_23 rfl (List.mem_of_getElem? (i := 0) rfl) ?_
      refine uu_geta (ci := 12) (N := 153) fX12_294 (by decide) so_1079.is (by decide) (c := 1101) (by decide) dX12_run_24 ?_
      refine uu_iload_n dX12_run_27 rfl (List.mem_of_getElem? (i := 1) rfl) ?_
      obtain ⟨v5, e6, h⟩ := uu_ob h
      refine uu_iald e6 dX12_run_28 ?_
      refine uu_istore_n dX12_run_29 rfl (by decide) rfl ?_
      refine uu_goto (tgt := 7) dX12_run_30 (by decide) ?_
      refine uu_lv [1, 0] (lv' := [(0, .ref (B + 1079)), (2, .int v5)]) rfl ?_
      exact hK7 v5 _ _ h
def fn_X12_run_7 (R_X12_command1 : Int32 → uS → Option uS)  : Nat → Int32 → uS → Option uS
  | 0 => fun _ _ => none
  | t + 1 => fb_X12_run_7 R_X12_command1 (fn_X12_run_7 R_X12_command1  t)
set_option maxRecDepth 100000 in
set_option maxHeartbeats 4000000 in
theorem xn_X12_run_7 {l : Launch} {D : va_G} {A : Nat → ClassId} {B : Nat} {Z : State → Heap → Prop} {vF : Value} (uk : uK B Z vF) (un : uX A B Z) {n : Nat} {R_X12_command1 : Int32 → uS → Option uS}  (hR_X12_command1 : ∀ (x1 : Int32) (s : uS) (r : uS), R_X12_command1 x1 s = some r → CU l D A B Z (48 + n) mX12_command1 s [.ref (B + 1079), .int x1] (r, none))  : ∀ (t : Nat) (x2 : Int32)  (s : uS) (r : uS), fn_X12_run_7 R_X12_command1  t x2 s = some r → GU l D A B Z mX12_run (48 + (n + 1)) (r, none) s 7 [(0, .ref (B + 1079)), (2, .int x2)] [] := by
  intro t
  induction t with
  | zero => intro x2 s r h
            cases h
  | succ t ih => intro x2 s r h
                 exact xb_X12_run_7 uk un hR_X12_command1 ih  h
def fn_X12_run (R_X12_command1 : Int32 → uS → Option uS) (x1 : Int32) (s : uS) : Option uS := (iget 20 s 1099 x1).bind fun v1 => fn_X12_run_7 R_X12_command1 uFu v1 s
set_option maxRecDepth 100000 in
set_option maxHeartbeats 4000000 in
theorem xc_X12_run {l : Launch} {D : va_G} {A : Nat → ClassId} {B : Nat} {Z : State → Heap → Prop} {vF : Value} (uk : uK B Z vF) (un : uX A B Z) {n : Nat} {R_X12_command1 : Int32 → uS → Option uS} (hR_X12_command1 : ∀ (x1 : Int32) (s : uS) (r : uS), R_X12_command1 x1 s = some r → CU l D A B Z (48 + n) mX12_command1 s [.ref (B + 1079), .int x1] (r, none)) {x1 : Int32} {s : uS} {r : uS}  (h : fn_X12_run R_X12_command1 x1 s = some r) : CU l D A B Z (48 + (n + 1)) mX12_run s [.ref (B + 1079), .int x1] (r, none) := by
  unfold fn_X12_run at h
  refine cu_of rfl uk.1.1 (Nat.le_of_ble_eq_true rfl) ?_
  show GU _ _ _ _ _ _ _ _ _ 0 [(0, .ref (B + 1079)), (1, .int x1)] []
  refine uu_aload_n dX12_run_0 rfl (List.mem_of_getElem? (i := 0) rfl) ?_
  refine uu_geta (ci := 12) (N := 153) fX12_288 (by decide) so_1079.is (by decide) (c := 1099) (by decide) dX12_run_1 ?_
  refine uu_iload_n dX12_run_4 rfl (List.mem_of_getElem? (i := 1) rfl) ?_
  obtain ⟨v1, e2, h⟩ := uu_ob h
  refine uu_iald e2 dX12_run_5 ?_
  refine uu_istore_n dX12_run_6 rfl (by decide) rfl ?_
  refine uu_lv [1, 0] (lv' := [(0, .ref (B + 1079)), (2, .int v1)]) rfl ?_
  exact xn_X12_run_7 uk un hR_X12_command1 _ _ _ _ h
def fb_X12_command1_142 (R_X12_choose : Int32 → uS → Option uS)  (x1 : Int32) (xs0 : Int32) (xs1 : Int32) (s : uS) : Option uS := (fn_X12_file1 xs1 xs0 s).bind fun s1 => if (s1.I 1079 95) = 0 then (some (wI (wI s1 1079 95 0) 1079 106 1)) else ((iget 22 s1 1108 x1).bind fun v4 => if v4 = 0 then (some (wI (wI s1 1079 95 0) 1079 106 1)) else (some (wI (wI s1 1079 95 1) 1079 106 1)))
set_option maxRecDepth 100000 in
set_option maxHeartbeats 4000000 in
theorem xb_X12_command1_142 {l : Launch} {D : va_G} {A : Nat → ClassId} {B : Nat} {Z : State → Heap → Prop} {vF : Value} (uk : uK B Z vF) (un : uX A B Z) {n : Nat} {R_X12_choose : Int32 → uS → Option uS}  (hR_X12_choose : ∀ (x1 : Int32) (s : uS) (r : uS), R_X12_choose x1 s = some r → CU l D A B Z (48 + n) mX12_choose s [.ref (B + 1079), .int x1] (r, none))  {x1 : Int32} {xs0 : Int32} {xs1 : Int32} {s : uS} {r : uS}  (h : fb_X12_command1_142 R_X12_choose  x1 xs0 xs1 s = some r) : GU l D A B Z mX12_command1 (48 + (n + 1)) (r, none) s 142 [(0, .ref (B + 1079)), (1, .int x1)] [.int xs0, .int xs1, .ref (B + 1079)] := by
  unfold fb_X12_command1_142 at h
  obtain ⟨s1, e2, h⟩ := uu_ob h
  refine uu_cv (d1 := 8) (k := 1079) (ci := 12) (T := TX12) (N := 153) (As := [.int xs1, .int xs0]) (st := []) (st' := []) (xc_X12_file1 uk  e2) so_1079.is (by decide) rfl kX12_file1 lX12_743 sX12_file1 (by omega) (Nat.le_of_ble_eq_true rfl) dX12_command1_142 rfl ?_
  refine uu_aload_n dX12_command1_145 rfl (List.mem_of_getElem? (i := 0) rfl) ?_
  refine uu_aload_n dX12_command1_146 rfl (List.mem_of_getElem? (i := 0) rfl) ?_
  refine uu_geti (ci := 12) (N := 153) fX12_737 (by decide) so_1079.is (by decide) (by decide) dX12_command1_147 ?_
  refine uu_if_eq (tgt := 166) dX12_command1_150 (by decide) (fun c3 => ?_) (fun c3 => ?_)
  · replace h := uu_pos c3 h
    refine uu_iconst (v := 0) dX12_command1_166 (by decide) ?_
    refine uu_puti (ft := .boolean) (ci := 12) (N := 153) fX12_737 ptX12 (Or.inl rfl) (by decide) so_1079.is (by decide) (by decide) (by decide +kernel) rfl rfl dX12_command1_167 ?_
    refine uu_aload_n dX12_command1_170 rfl (List.mem_of_getElem? (i := 0) rfl) ?_
    refine uu_iconst (v := 1) dX12_command1_171 (by decide) ?_
    refine uu_puti (ft := .boolean) (ci := 12) (N := 153) fX12_746 ptX12 (Or.inl rfl) (by decide) so_1079.is (by decide) (by decide) (by decide +kernel) rfl rfl dX12_command1_172 ?_
    have hr := Option.some.inj h
    subst hr
    exact uu_vret rfl dX12_command1_175
  · replace h := uu_neg c3 h
    refine uu_aload_n dX12_command1_153 rfl (List.mem_of_getElem? (i := 0) rfl) ?_
    refine uu_geta (ci := 12) (N := 153) fX12_306 (by decide) so_1079.is (by decide) (c := 1108) (by decide) dX12_command1_154 ?_
    refine uu_iload_n dX12_command1_157 rfl (List.mem_of_getElem? (i := 1) rfl) ?_
    obtain ⟨v4, e5, h⟩ := uu_ob h
    refine uu_zald e5 dX12_command1_158 ?_
    refine uu_if_eq (tgt := 166) dX12_command1_159 (by decide) (fun c6 => ?_) (fun c6 => ?_)
    · replace h := uu_pos c6 h
      refine uu_iconst (v := 0) dX12_command1_166 (by decide) ?_
      refine uu_puti (ft := .boolean) (ci := 12) (N := 153) fX12_737 ptX12 (Or.inl rfl) (by decide) so_1079.is (by decide) (by decide) (by decide +kernel) rfl rfl dX12_command1_167 ?_
      refine uu_aload_n dX12_command1_170 rfl (List.mem_of_getElem? (i := 0) rfl) ?_
      refine uu_iconst (v := 1) dX12_command1_171 (by decide) ?_
      refine uu_puti (ft := .boolean) (ci := 12) (N := 153) fX12_746 ptX12 (Or.inl rfl) (by decide) so_1079.is (by decide) (by decide) (by decide +kernel) rfl rfl dX12_command1_172 ?_
      have hr := Option.some.inj h
      subst hr
      exact uu_vret rfl dX12_command1_175
    · replace h := uu_neg c6 h
      refine uu_iconst (v := 1) dX12_command1_162 (by decide) ?_
      refine uu_goto (tgt := 167) dX12_command1_163 (by decide) ?_
      refine uu_puti (ft := .boolean) (ci := 12) (N := 153) fX12_737 ptX12 (Or.inl rfl) (by decide) so_1079.is (by decide) (by decide) (by decide +kernel) rfl rfl dX12_command1_167 ?_
      refine uu_aload_n dX12_command1_170 rfl (List.mem_of_getElem? (i := 0) rfl) ?_
      refine uu_iconst (v := 1) dX12_command1_171 (by decide) ?_
      refine uu_puti (ft := .boolean) (ci := 12) (N := 153) fX12_746 ptX12 (Or.inl rfl) (by decide) so_1079.is (by decide) (by decide) (by decide +kernel) rfl rfl dX12_command1_172 ?_
      have hr := Option.some.inj h
      subst hr
      exact uu_vret rfl dX12_command1_175
def fb_X12_command1_106 (R_X12_choose : Int32 → uS → Option uS)  (x1 : Int32) (xs0 : Int32) (s : uS) : Option uS := (iget 20 s 1106 x1).bind fun v1 => if v1 = (-1) then (fb_X12_command1_142 R_X12_choose x1 (s.I 1079 94) xs0 s) else ((iget 20 s 1106 x1).bind fun v4 => (iget 20 s 1107 x1).bind fun v6 => (fn_X12_flagsOf v4 v6 s).bind fun r8 => fb_X12_command1_142 R_X12_choose x1 r8.2 xs0 r8.1)
set_option maxRecDepth 100000 in
set_option maxHeartbeats 4000000 in
theorem xb_X12_command1_106 {l : Launch} {D : va_G} {A : Nat → ClassId} {B : Nat} {Z : State → Heap → Prop} {vF : Value} (uk : uK B Z vF) (un : uX A B Z) {n : Nat} {R_X12_choose : Int32 → uS → Option uS}  (hR_X12_choose : ∀ (x1 : Int32) (s : uS) (r : uS), R_X12_choose x1 s = some r → CU l D A B Z (48 + n) mX12_choose s [.ref (B + 1079), .int x1] (r, none))  {x1 : Int32} {xs0 : Int32} {s : uS} {r : uS}  (h : fb_X12_command1_106 R_X12_choose  x1 xs0 s = some r) : GU l D A B Z mX12_command1 (48 + (n + 1)) (r, none) s 106 [(0, .ref (B + 1079)), (1, .int x1)] [.int xs0] := by
  unfold fb_X12_command1_106 at h
  refine uu_istore_n dX12_command1_106 rfl (by decide) rfl ?_
  refine uu_aload_n dX12_command1_107 rfl (List.mem_of_getElem? (i := 1) rfl) ?_
  refine uu_iload_n dX12_command1_108 rfl (List.mem_of_getElem? (i := 0) rfl) ?_
  refine uu_aload_n dX12_command1_109 rfl (List.mem_of_getElem? (i := 1) rfl) ?_
  refine uu_geta (ci := 12) (N := 153) fX12_303 (by decide) so_1079.is (by decide) (c := 1106) (by decide) dX12_command1_110 ?_
  refine uu_iload_n dX12_command1_113 rfl (List.mem_of_getElem? (i := 2) rfl) ?_
  obtain ⟨v1, e2, h⟩ := uu_ob h
  refine uu_iald e2 dX12_command1_114 ?_
  refine uu_iconst (v := -1) dX12_command1_115 (by decide) ?_
  refine uu_icmp_ne (tgt := 126) dX12_command1_116 (by decide) (fun c3 => ?_) (fun c3 => ?_)
  · replace h := uu_neg c3 h
    refine uu_aload_n dX12_command1_126 rfl (List.mem_of_getElem? (i := 1) rfl) ?_
    refine uu_aload_n dX12_command1_127 rfl (List.mem_of_getElem? (i := 1) rfl) ?_
    refine uu_geta (ci := 12) (N := 153) fX12_303 (by decide) so_1079.is (by decide) (c := 1106) (by decide) dX12_command1_128 ?_
    refine uu_iload_n dX12_command1_131 rfl (List.mem_of_getElem? (i := 2) rfl) ?_
    obtain ⟨v4, e5, h⟩ := uu_ob h
    refine uu_iald e5 dX12_command1_132 ?_
    refine uu_aload_n dX12_command1_133 rfl (List.mem_of_getElem? (i := 1) rfl) ?_
    refine uu_geta (ci := 12) (N := 153) fX12_463 (by decide) so_1079.is (by decide) (c := 1107) (by decide) dX12_command1_134 ?_
    refine uu_iload_n dX12_command1_137 rfl (List.mem_of_getElem? (i := 2) rfl) ?_
    obtain ⟨v6, e7, h⟩ := uu_ob h
    refine uu_iald e7 dX12_command1_138 ?_
    obtain ⟨r8, e9, h⟩ := uu_ob h
    refine uu_cv (d1 := 7) (k := 1079) (ci := 12) (T := TX12) (N := 153) (As := [.int v4, .int v6]) (st := [.int xs0, .ref (B + 1079)]) (st' := [.int r8.2, .int xs0, .ref (B + 1079)]) (xc_X12_flagsOf uk  e9) so_1079.is (by decide) rfl kX12_flagsOf lX12_740 sX12_flagsOf (by omega) (Nat.le_of_ble_eq_true rfl) dX12_command1_139 rfl ?_
    refine uu_lv [1, 2] (lv' := [(0, .ref (B + 1079)), (1, .int x1)]) rfl ?_
    exact xb_X12_command1_142 uk un hR_X12_choose h
  · replace h := uu_pos c3 h
    refine uu_aload_n dX12_command1_119 rfl (List.mem_of_getElem? (i := 1) rfl) ?_
    refine uu_geti (ci := 12) (N := 153) fX12_700 (by decide) so_1079.is (by decide) (by decide) dX12_command1_120 ?_
    refine uu_goto (tgt := 142) dX12_command1_123 (by decide) ?_
    refine uu_lv [1, 2] (lv' := [(0, .ref (B + 1079)), (1, .int x1)]) rfl ?_
    exact xb_X12_command1_142 uk un hR_X12_choose h
def fn_X12_command1 (R_X12_choose : Int32 → uS → Option uS) (x1 : Int32) (s : uS) : Option uS := (iget 20 s 1098 x1).bind fun v1 => if v1 = 0 then ((R_X12_choose x1 s).bind fun s3 => some s3) else (if v1 = 1 then ((iget 20 s 1102 x1).bind fun v5 => (iget 20 s 1103 x1).bind fun v7 => (fn_X12_flagsOf v5 v7 s).bind fun r9 => (iget 20 r9.1 1098 x1).bind fun v11 => if v11 = 8 then (some (wI r9.1 1079 94 r9.2)) else ((iget 20 r9.1 1098 x1).bind fun v14 => if v14 = 9 then (some (wI r9.1 1079 94 ((r9.1.I 1079 94) ||| r9.2))) else (some (wI r9.1 1079 94 ((r9.1.I 1079 94) &&& (r9.2 ^^^ (-1))))))) else (if v1 = 2 then (some (wI s 1079 96 1)) else (if v1 = 3 then (some (wI s 1079 95 0)) else (if v1 = 4 then ((iget 20 s 1098 x1).bind fun v17 => if v17 = 4 then (fb_X12_command1_106 R_X12_choose x1 (-1) s) else ((iget 20 s 1102 x1).bind fun v20 => fb_X12_command1_106 R_X12_choose x1 v20 s)) else (if v1 = 5 then ((iget 20 s 1098 x1).bind fun v22 => if v22 = 4 then (fb_X12_command1_106 R_X12_choose x1 (-1) s) else ((iget 20 s 1102 x1).bind fun v25 => fb_X12_command1_106 R_X12_choose x1 v25 s)) else (if v1 = 6 then ((iget 20 s 1102 x1).bind fun v27 => (fn_X12_redirect1 v27 s).bind fun s29 => if (s29.I 1079 95) = 0 then (some (wI (wI s29 1079 95 0) 1079 106 1)) else ((iget 22 s29 1108 x1).bind fun v32 => if v32 = 0 then (some (wI (wI s29 1079 95 0) 1079 106 1)) else (some (wI (wI s29 1079 95 1) 1079 106 1)))) else (if v1 = 7 then (some (wI (wI (wI s 1079 102 ((s.I 1079 102) + 1)) 1079 103 x1) 1079 95 0)) else (if v1 = 8 then ((iget 20 s 1102 x1).bind fun v35 => (iget 20 s 1103 x1).bind fun v37 => (fn_X12_flagsOf v35 v37 s).bind fun r39 => (iget 20 r39.1 1098 x1).bind fun v41 => if v41 = 8 then (some (wI r39.1 1079 94 r39.2)) else ((iget 20 r39.1 1098 x1).bind fun v44 => if v44 = 9 then (some (wI r39.1 1079 94 ((r39.1.I 1079 94) ||| r39.2))) else (some (wI r39.1 1079 94 ((r39.1.I 1079 94) &&& (r39.2 ^^^ (-1))))))) else (if v1 = 9 then ((iget 20 s 1102 x1).bind fun v47 => (iget 20 s 1103 x1).bind fun v49 => (fn_X12_flagsOf v47 v49 s).bind fun r51 => (iget 20 r51.1 1098 x1).bind fun v53 => if v53 = 8 then (some (wI r51.1 1079 94 r51.2)) else ((iget 20 r51.1 1098 x1).bind fun v56 => if v56 = 9 then (some (wI r51.1 1079 94 ((r51.1.I 1079 94) ||| r51.2))) else (some (wI r51.1 1079 94 ((r51.1.I 1079 94) &&& (r51.2 ^^^ (-1))))))) else (if v1 = 10 then ((iget 20 s 1102 x1).bind fun v59 => (iget 20 s 1103 x1).bind fun v61 => (fn_X12_flagsOf v59 v61 s).bind fun r63 => (iget 20 r63.1 1098 x1).bind fun v65 => if v65 = 8 then (some (wI r63.1 1079 94 r63.2)) else ((iget 20 r63.1 1098 x1).bind fun v68 => if v68 = 9 then (some (wI r63.1 1079 94 ((r63.1.I 1079 94) ||| r63.2))) else (some (wI r63.1 1079 94 ((r63.1.I 1079 94) &&& (r63.2 ^^^ (-1))))))) else (if v1 = 11 then (some (wI (wI s 1079 104 ((s.I 1079 104) + 1)) 1079 105 x1)) else ((iget 20 s 1102 x1).bind fun v71 => (iget 20 s 1103 x1).bind fun v73 => (fn_X12_flagsOf v71 v73 s).bind fun r75 => (iget 20 r75.1 1098 x1).bind fun v77 => if v77 = 8 then (some (wI r75.1 1079 94 r75.2)) else ((iget 20 r75.1 1098 x1).bind fun v80 => if v80 = 9 then (some (wI r75.1 1079 94 ((r75.1.I 1079 94) ||| r75.2))) else (some (wI r75.1 1079 94 ((r75.1.I 1079 94) &&& (r75.2 ^^^ (-1))))))))))))))))))
set_option maxRecDepth 100000 in
set_option maxHeartbeats 4000000 in
theorem xc_X12_command1 {l : Launch} {D : va_G} {A : Nat → ClassId} {B : Nat} {Z : State → Heap → Prop} {vF : Value} (uk : uK B Z vF) (un : uX A B Z) {n : Nat} {R_X12_choose : Int32 → uS → Option uS} (hR_X12_choose : ∀ (x1 : Int32) (s : uS) (r : uS), R_X12_choose x1 s = some r → CU l D A B Z (48 + n) mX12_choose s [.ref (B + 1079), .int x1] (r, none)) {x1 : Int32} {s : uS} {r : uS}  (h : fn_X12_command1 R_X12_choose x1 s = some r) : CU l D A B Z (48 + (n + 1)) mX12_command1 s [.ref (B + 1079), .int x1] (r, none) := by
  unfold fn_X12_command1 at h
  refine cu_of rfl uk.1.1 (Nat.le_of_ble_eq_true rfl) ?_
  show GU _ _ _ _ _ _ _ _ _ 0 [(0, .ref (B + 1079)), (1, .int x1)] []
  refine uu_aload_n dX12_command1_0 rfl (List.mem_of_getElem? (i := 0) rfl) ?_
  refine uu_geta (ci := 12) (N := 153) fX12_285 (by decide) so_1079.is (by decide) (c := 1098) (by decide) dX12_command1_1 ?_
  refine uu_iload_n dX12_command1_4 rfl (List.mem_of_getElem? (i := 1) rfl) ?_
  obtain ⟨v1, e2, h⟩ := uu_ob h
  refine uu_iald e2 dX12_command1_5 ?_
  by_cases c6_0 : v1 = 0
  · replace h := uu_pos c6_0 h
    refine uu_tabE (tgt := 68) (off := 62) (v := 0) dX12_command1_6 c6_0 (by decide) (by decide) rfl (by decide) ?_
    refine uu_aload_n dX12_command1_68 rfl (List.mem_of_getElem? (i := 0) rfl) ?_
    refine uu_iload_n dX12_command1_69 rfl (List.mem_of_getElem? (i := 1) rfl) ?_
    obtain ⟨s3, e4, h⟩ := uu_ob h
    refine uu_cv (d1 := 48 + n) (k := 1079) (ci := 12) (T := TX12) (N := 153) (As := [.int x1]) (st := []) (st' := []) (hR_X12_choose _ _ _ e4) so_1079.is (by decide) rfl kX12_choose lX12_734 sX12_choose (by omega) (Nat.le_of_ble_eq_true rfl) dX12_command1_70 rfl ?_
    have hr := Option.some.inj h
    subst hr
    exact uu_vret rfl dX12_command1_73
  replace h := uu_neg c6_0 h
  by_cases c6_1 : v1 = 1
  · replace h := uu_pos c6_1 h
    refine uu_tabE (tgt := 254) (off := 248) (v := 1) dX12_command1_6 c6_1 (by decide) (by decide) rfl (by decide) ?_
    refine uu_aload_n dX12_command1_254 rfl (List.mem_of_getElem? (i := 0) rfl) ?_
    refine uu_aload_n dX12_command1_255 rfl (List.mem_of_getElem? (i := 0) rfl) ?_
    refine uu_geta (ci := 12) (N := 153) fX12_439 (by decide) so_1079.is (by decide) (c := 1102) (by decide) dX12_command1_256 ?_
    refine uu_iload_n dX12_command1_259 rfl (List.mem_of_getElem? (i := 1) rfl) ?_
    obtain ⟨v5, e6, h⟩ := uu_ob h
    refine uu_iald e6 dX12_command1_260 ?_
    refine uu_aload_n dX12_command1_261 rfl (List.mem_of_getElem? (i := 0) rfl) ?_
    refine uu_geta (ci := 12) (N := 153) fX12_297 (by decide) so_1079.is (by decide) (c := 1103) (by decide) dX12_command1_262 ?_
    refine uu_iload_n dX12_command1_265 rfl (List.mem_of_getElem? (i := 1) rfl) ?_
    obtain ⟨v7, e8, h⟩ := uu_ob h
    refine uu_iald e8 dX12_command1_266 ?_
    obtain ⟨r9, e10, h⟩ := uu_ob h
    refine uu_cv (d1 := 7) (k := 1079) (ci := 12) (T := TX12) (N := 153) (As := [.int v5, .int v7]) (st := []) (st' := [.int r9.2]) (xc_X12_flagsOf uk  e10) so_1079.is (by decide) rfl kX12_flagsOf lX12_740 sX12_flagsOf (by omega) (Nat.le_of_ble_eq_true rfl) dX12_command1_267 rfl ?_
    refine uu_istore_n dX12_command1_270 rfl (by decide) rfl ?_
    refine uu_aload_n dX12_command1_271 rfl (List.mem_of_getElem? (i := 1) rfl) ?_
    refine uu_aload_n dX12_command1_272 rfl (List.mem_of_getElem? (i := 1) rfl) ?_
    refine uu_geta (ci := 12) (N := 153) fX12_285 (by decide) so_1079.is (by decide) (c := 1098) (by decide) dX12_command1_273 ?_
    refine uu_iload_n dX12_command1_276 rfl (List.mem_of_getElem? (i := 2) rfl) ?_
    obtain ⟨v11, e12, h⟩ := uu_ob h
    refine uu_iald e12 dX12_command1_277 ?_
    refine uu_bipush (v := 8) dX12_command1_278 (by decide) ?_
    refine uu_icmp_ne (tgt := 287) dX12_command1_280 (by decide) (fun c13 => ?_) (fun c13 => ?_)
    · replace h := uu_neg c13 h
      refine uu_aload_n dX12_command1_287 rfl (List.mem_of_getElem? (i := 1) rfl) ?_
      refine uu_geta (ci := 12) (N := 153) fX12_285 (by decide) so_1079.is (by decide) (c := 1098) (by decide) dX12_command1_288 ?_
      refine uu_iload_n dX12_command1_291 rfl (List.mem_of_getElem? (i := 2) rfl) ?_
      obtain ⟨v14, e15, h⟩ := uu_ob h
      refine uu_iald e15 dX12_command1_292 ?_
      refine uu_bipush (v := 9) dX12_command1_293 (by decide) ?_
      refine uu_icmp_ne (tgt := 307) dX12_command1_295 (by decide) (fun c16 => ?_) (fun c16 => ?_)
      · replace h := uu_neg c16 h
        refine uu_aload_n dX12_command1_307 rfl (List.mem_of_getElem? (i := 1) rfl) ?_
        refine uu_geti (ci := 12) (N := 153) fX12_700 (by decide) so_1079.is (by decide) (by decide) dX12_command1_308 ?_
        refine uu_iload_n dX12_command1_311 rfl (List.mem_of_getElem? (i := 0) rfl) ?_
        refine uu_iconst (v := -1) dX12_command1_312 (by decide) ?_
        refine uu_ixor dX12_command1_313 ?_
        refine uu_iand dX12_command1_314 ?_
        refine uu_puti (ft := .int) (ci := 12) (N := 153) fX12_700 ptX12 (Or.inl rfl) (by decide) so_1079.is (by decide) (by decide) (by decide +kernel) rfl rfl dX12_command1_315 ?_
        have hr := Option.some.inj h
        subst hr
        exact uu_vret rfl dX12_command1_318
      · replace h := uu_pos c16 h
        refine uu_aload_n dX12_command1_298 rfl (List.mem_of_getElem? (i := 1) rfl) ?_
        refine uu_geti (ci := 12) (N := 153) fX12_700 (by decide) so_1079.is (by decide) (by decide) dX12_command1_299 ?_
        refine uu_iload_n dX12_command1_302 rfl (List.mem_of_getElem? (i := 0) rfl) ?_
        refine uu_ior dX12_command1_303 ?_
        refine uu_goto (tgt := 315) dX12_command1_304 (by decide) ?_
        refine uu_puti (ft := .int) (ci := 12) (N := 153) fX12_700 ptX12 (Or.inl rfl) (by decide) so_1079.is (by decide) (by decide) (by decide +kernel) rfl rfl dX12_command1_315 ?_
        have hr := Option.some.inj h
        subst hr
        exact uu_vret rfl dX12_command1_318
    · replace h := uu_pos c13 h
      refine uu_iload_n dX12_command1_283 rfl (List.mem_of_getElem? (i := 0) rfl) ?_
      refine uu_goto (tgt := 315) dX12_command1_284 (by decide) ?_
      refine uu_puti (ft := .int) (ci := 12) (N := 153) fX12_700 ptX12 (Or.inl rfl) (by decide) so_1079.is (by decide) (by decide) (by decide +kernel) rfl rfl dX12_command1_315 ?_
      have hr := Option.some.inj h
      subst hr
      exact uu_vret rfl dX12_command1_318
  replace h := uu_neg c6_1 h
  by_cases c6_2 : v1 = 2
  · replace h := uu_pos c6_2 h
    refine uu_tabE (tgt := 74) (off := 68) (v := 2) dX12_command1_6 c6_2 (by decide) (by decide) rfl (by decide) ?_
    refine uu_aload_n dX12_command1_74 rfl (List.mem_of_getElem? (i := 0) rfl) ?_
    refine uu_iconst (v := 1) dX12_command1_75 (by decide) ?_
    refine uu_puti (ft := .boolean) (ci := 12) (N := 153) fX12_728 ptX12 (Or.inl rfl) (by decide) so_1079.is (by decide) (by decide) (by decide +kernel) rfl rfl dX12_command1_76 ?_
    have hr := Option.some.inj h
    subst hr
    exact uu_vret rfl dX12_command1_79
  replace h := uu_neg c6_2 h
  by_cases c6_3 : v1 = 3
  · replace h := uu_pos c6_3 h
    refine uu_tabE (tgt := 80) (off := 74) (v := 3) dX12_command1_6 c6_3 (by decide) (by decide) rfl (by decide) ?_
    refine uu_aload_n dX12_command1_80 rfl (List.mem_of_getElem? (i := 0) rfl) ?_
    refine uu_iconst (v := 0) dX12_command1_81 (by decide) ?_
    refine uu_puti (ft := .boolean) (ci := 12) (N := 153) fX12_737 ptX12 (Or.inl rfl) (by decide) so_1079.is (by decide) (by decide) (by decide +kernel) rfl rfl dX12_command1_82 ?_
    have hr := Option.some.inj h
    subst hr
    exact uu_vret rfl dX12_command1_85
  replace h := uu_neg c6_3 h
  by_cases c6_4 : v1 = 4
  · replace h := uu_pos c6_4 h
    refine uu_tabE (tgt := 86) (off := 80) (v := 4) dX12_command1_6 c6_4 (by decide) (by decide) rfl (by decide) ?_
    refine uu_aload_n dX12_command1_86 rfl (List.mem_of_getElem? (i := 0) rfl) ?_
    refine uu_geta (ci := 12) (N := 153) fX12_285 (by decide) so_1079.is (by decide) (c := 1098) (by decide) dX12_command1_87 ?_
    refine uu_iload_n dX12_command1_90 rfl (List.mem_of_getElem? (i := 1) rfl) ?_
    obtain ⟨v17, e18, h⟩ := uu_ob h
    refine uu_iald e18 dX12_command1_91 ?_
    refine uu_iconst (v := 4) dX12_command1_92 (by decide) ?_
    refine uu_icmp_ne (tgt := 100) dX12_command1_93 (by decide) (fun c19 => ?_) (fun c19 => ?_)
    · replace h := uu_neg c19 h
      refine uu_aload_n dX12_command1_100 rfl (List.mem_of_getElem? (i := 0) rfl) ?_
      refine uu_geta (ci := 12) (N := 153) fX12_439 (by decide) so_1079.is (by decide) (c := 1102) (by decide) dX12_command1_101 ?_
      refine uu_iload_n dX12_command1_104 rfl (List.mem_of_getElem? (i := 1) rfl) ?_
      obtain ⟨v20, e21, h⟩ := uu_ob h
      refine uu_iald e21 dX12_command1_105 ?_
      exact xb_X12_command1_106 uk un hR_X12_choose h
    · replace h := uu_pos c19 h
      refine uu_iconst (v := -1) dX12_command1_96 (by decide) ?_
      refine uu_goto (tgt := 106) dX12_command1_97 (by decide) ?_
      exact xb_X12_command1_106 uk un hR_X12_choose h
  replace h := uu_neg c6_4 h
  by_cases c6_5 : v1 = 5
  · replace h := uu_pos c6_5 h
    refine uu_tabE (tgt := 86) (off := 80) (v := 5) dX12_command1_6 c6_5 (by decide) (by decide) rfl (by decide) ?_
    refine uu_aload_n dX12_command1_86 rfl (List.mem_of_getElem? (i := 0) rfl) ?_
    refine uu_geta (ci := 12) (N := 153) fX12_285 (by decide) so_1079.is (by decide) (c := 1098) (by decide) dX12_command1_87 ?_
    refine uu_iload_n dX12_command1_90 rfl (List.mem_of_getElem? (i := 1) rfl) ?_
    obtain ⟨v22, e23, h⟩ := uu_ob h
    refine uu_iald e23 dX12_command1_91 ?_
    refine uu_iconst (v := 4) dX12_command1_92 (by decide) ?_
    refine uu_icmp_ne (tgt := 100) dX12_command1_93 (by decide) (fun c24 => ?_) (fun c24 => ?_)
    · replace h := uu_neg c24 h
      refine uu_aload_n dX12_command1_100 rfl (List.mem_of_getElem? (i := 0) rfl) ?_
      refine uu_geta (ci := 12) (N := 153) fX12_439 (by decide) so_1079.is (by decide) (c := 1102) (by decide) dX12_command1_101 ?_
      refine uu_iload_n dX12_command1_104 rfl (List.mem_of_getElem? (i := 1) rfl) ?_
      obtain ⟨v25, e26, h⟩ := uu_ob h
      refine uu_iald e26 dX12_command1_105 ?_
      exact xb_X12_command1_106 uk un hR_X12_choose h
    · replace h := uu_pos c24 h
      refine uu_iconst (v := -1) dX12_command1_96 (by decide) ?_
      refine uu_goto (tgt := 106) dX12_command1_97 (by decide) ?_
      exact xb_X12_command1_106 uk un hR_X12_choose h
  replace h := uu_neg c6_5 h
  by_cases c6_6 : v1 = 6
  · replace h := uu_pos c6_6 h
    refine uu_tabE (tgt := 176) (off := 170) (v := 6) dX12_command1_6 c6_6 (by decide) (by decide) rfl (by decide) ?_
    refine uu_aload_n dX12_command1_176 rfl (List.mem_of_getElem? (i := 0) rfl) ?_
    refine uu_aload_n dX12_command1_177 rfl (List.mem_of_getElem? (i := 0) rfl) ?_
    refine uu_geta (ci := 12) (N := 153) fX12_439 (by decide) so_1079.is (by decide) (c := 1102) (by decide) dX12_command1_178 ?_
    refine uu_iload_n dX12_command1_181 rfl (List.mem_of_getElem? (i := 1) rfl) ?_
    obtain ⟨v27, e28, h⟩ := uu_ob h
    refine uu_iald e28 dX12_command1_182 ?_
    obtain ⟨s29, e30, h⟩ := uu_ob h
    refine uu_cv (d1 := 2) (k := 1079) (ci := 12) (T := TX12) (N := 153) (As := [.int v27]) (st := []) (st' := []) (xc_X12_redirect1 uk  e30) so_1079.is (by decide) rfl kX12_redirect1 lX12_749 sX12_redirect1 (by omega) (Nat.le_of_ble_eq_true rfl) dX12_command1_183 rfl ?_
    refine uu_aload_n dX12_command1_186 rfl (List.mem_of_getElem? (i := 0) rfl) ?_
    refine uu_aload_n dX12_command1_187 rfl (List.mem_of_getElem? (i := 0) rfl) ?_
    refine uu_geti (ci := 12) (N := 153) fX12_737 (by decide) so_1079.is (by decide) (by decide) dX12_command1_188 ?_
    refine uu_if_eq (tgt := 207) dX12_command1_191 (by decide) (fun c31 => ?_) (fun c31 => ?_)
    · replace h := uu_pos c31 h
      refine uu_iconst (v := 0) dX12_command1_207 (by decide) ?_
      refine uu_puti (ft := .boolean) (ci := 12) (N := 153) fX12_737 ptX12 (Or.inl rfl) (by decide) so_1079.is (by decide) (by decide) (by decide +kernel) rfl rfl dX12_command1_208 ?_
      refine uu_aload_n dX12_command1_211 rfl (List.mem_of_getElem? (i := 0) rfl) ?_
      refine uu_iconst (v := 1) dX12_command1_212 (by decide) ?_
      refine uu_puti (ft := .boolean) (ci := 12) (N := 153) fX12_746 ptX12 (Or.inl rfl) (by decide) so_1079.is (by decide) (by decide) (by decide +kernel) rfl rfl dX12_command1_213 ?_
      have hr := Option.some.inj h
      subst hr
      exact uu_vret rfl dX12_command1_216
    · replace h := uu_neg c31 h
      refine uu_aload_n dX12_command1_194 rfl (List.mem_of_getElem? (i := 0) rfl) ?_
      refine uu_geta (ci := 12) (N := 153) fX12_306 (by decide) so_1079.is (by decide) (c := 1108) (by decide) dX12_command1_195 ?_
      refine uu_iload_n dX12_command1_198 rfl (List.mem_of_getElem? (i := 1) rfl) ?_
      obtain ⟨v32, e33, h⟩ := uu_ob h
      refine uu_zald e33 dX12_command1_199 ?_
      refine uu_if_eq (tgt := 207) dX12_command1_200 (by decide) (fun c34 => ?_) (fun c34 => ?_)
      · replace h := uu_pos c34 h
        refine uu_iconst (v := 0) dX12_command1_207 (by decide) ?_
        refine uu_puti (ft := .boolean) (ci := 12) (N := 153) fX12_737 ptX12 (Or.inl rfl) (by decide) so_1079.is (by decide) (by decide) (by decide +kernel) rfl rfl dX12_command1_208 ?_
        refine uu_aload_n dX12_command1_211 rfl (List.mem_of_getElem? (i := 0) rfl) ?_
        refine uu_iconst (v := 1) dX12_command1_212 (by decide) ?_
        refine uu_puti (ft := .boolean) (ci := 12) (N := 153) fX12_746 ptX12 (Or.inl rfl) (by decide) so_1079.is (by decide) (by decide) (by decide +kernel) rfl rfl dX12_command1_213 ?_
        have hr := Option.some.inj h
        subst hr
        exact uu_vret rfl dX12_command1_216
      · replace h := uu_neg c34 h
        refine uu_iconst (v := 1) dX12_command1_203 (by decide) ?_
        refine uu_goto (tgt := 208) dX12_command1_204 (by decide) ?_
        refine uu_puti (ft := .boolean) (ci := 12) (N := 153) fX12_737 ptX12 (Or.inl rfl) (by decide) so_1079.is (by decide) (by decide) (by decide +kernel) rfl rfl dX12_command1_208 ?_
        refine uu_aload_n dX12_command1_211 rfl (List.mem_of_getElem? (i := 0) rfl) ?_
        refine uu_iconst (v := 1) dX12_command1_212 (by decide) ?_
        refine uu_puti (ft := .boolean) (ci := 12) (N := 153) fX12_746 ptX12 (Or.inl rfl) (by decide) so_1079.is (by decide) (by decide) (by decide +kernel) rfl rfl dX12_command1_213 ?_
        have hr := Option.some.inj h
        subst hr
        exact uu_vret rfl dX12_command1_216
  replace h := uu_neg c6_6 h
  by_cases c6_7 : v1 = 7
  · replace h := uu_pos c6_7 h
    refine uu_tabE (tgt := 217) (off := 211) (v := 7) dX12_command1_6 c6_7 (by decide) (by decide) rfl (by decide) ?_
    refine uu_aload_n dX12_command1_217 rfl (List.mem_of_getElem? (i := 0) rfl) ?_
    refine uu_aload_n dX12_command1_218 rfl (List.mem_of_getElem? (i := 0) rfl) ?_
    refine uu_geti (ci := 12) (N := 153) fX12_752 (by decide) so_1079.is (by decide) (by decide) dX12_command1_219 ?_
    refine uu_iconst (v := 1) dX12_command1_222 (by decide) ?_
    refine uu_iadd dX12_command1_223 ?_
    refine uu_puti (ft := .int) (ci := 12) (N := 153) fX12_752 ptX12 (Or.inl rfl) (by decide) so_1079.is (by decide) (by decide) (by decide +kernel) rfl rfl dX12_command1_224 ?_
    refine uu_aload_n dX12_command1_227 rfl (List.mem_of_getElem? (i := 0) rfl) ?_
    refine uu_iload_n dX12_command1_228 rfl (List.mem_of_getElem? (i := 1) rfl) ?_
    refine uu_puti (ft := .int) (ci := 12) (N := 153) fX12_755 ptX12 (Or.inl rfl) (by decide) so_1079.is (by decide) (by decide) (by decide +kernel) rfl rfl dX12_command1_229 ?_
    refine uu_aload_n dX12_command1_232 rfl (List.mem_of_getElem? (i := 0) rfl) ?_
    refine uu_iconst (v := 0) dX12_command1_233 (by decide) ?_
    refine uu_puti (ft := .boolean) (ci := 12) (N := 153) fX12_737 ptX12 (Or.inl rfl) (by decide) so_1079.is (by decide) (by decide) (by decide +kernel) rfl rfl dX12_command1_234 ?_
    have hr := Option.some.inj h
    subst hr
    exact uu_vret rfl dX12_command1_237
  replace h := uu_neg c6_7 h
  by_cases c6_8 : v1 = 8
  · replace h := uu_pos c6_8 h
    refine uu_tabE (tgt := 254) (off := 248) (v := 8) dX12_command1_6 c6_8 (by decide) (by decide) rfl (by decide) ?_
    refine uu_aload_n dX12_command1_254 rfl (List.mem_of_getElem? (i := 0) rfl) ?_
    refine uu_aload_n dX12_command1_255 rfl (List.mem_of_getElem? (i := 0) rfl) ?_
    refine uu_geta (ci := 12) (N := 153) fX12_439 (by decide) so_1079.is (by decide) (c := 1102) (by decide) dX12_command1_256 ?_
    refine uu_iload_n dX12_command1_259 rfl (List.mem_of_getElem? (i := 1) rfl) ?_
    obtain ⟨v35, e36, h⟩ := uu_ob h
    refine uu_iald e36 dX12_command1_260 ?_
    refine uu_aload_n dX12_command1_261 rfl (List.mem_of_getElem? (i := 0) rfl) ?_
    refine uu_geta (ci := 12) (N := 153) fX12_297 (by decide) so_1079.is (by decide) (c := 1103) (by decide) dX12_command1_262 ?_
    refine uu_iload_n dX12_command1_265 rfl (List.mem_of_getElem? (i := 1) rfl) ?_
    obtain ⟨v37, e38, h⟩ := uu_ob h
    refine uu_iald e38 dX12_command1_266 ?_
    obtain ⟨r39, e40, h⟩ := uu_ob h
    refine uu_cv (d1 := 7) (k := 1079) (ci := 12) (T := TX12) (N := 153) (As := [.int v35, .int v37]) (st := []) (st' := [.int r39.2]) (xc_X12_flagsOf uk  e40) so_1079.is (by decide) rfl kX12_flagsOf lX12_740 sX12_flagsOf (by omega) (Nat.le_of_ble_eq_true rfl) dX12_command1_267 rfl ?_
    refine uu_istore_n dX12_command1_270 rfl (by decide) rfl ?_
    refine uu_aload_n dX12_command1_271 rfl (List.mem_of_getElem? (i := 1) rfl) ?_
    refine uu_aload_n dX12_command1_272 rfl (List.mem_of_getElem? (i := 1) rfl) ?_
    refine uu_geta (ci := 12) (N := 153) fX12_285 (by decide) so_1079.is (by decide) (c := 1098) (by decide) dX12_command1_273 ?_
    refine uu_iload_n dX12_command1_276 rfl (List.mem_of_getElem? (i := 2) rfl) ?_
    obtain ⟨v41, e42, h⟩ := uu_ob h
    refine uu_iald e42 dX12_command1_277 ?_
    refine uu_bipush (v := 8) dX12_command1_278 (by decide) ?_
    refine uu_icmp_ne (tgt := 287) dX12_command1_280 (by decide) (fun c43 => ?_) (fun c43 => ?_)
    · replace h := uu_neg c43 h
      refine uu_aload_n dX12_command1_287 rfl (List.mem_of_getElem? (i := 1) rfl) ?_
      refine uu_geta (ci := 12) (N := 153) fX12_285 (by decide) so_1079.is (by decide) (c := 1098) (by decide) dX12_command1_288 ?_
      refine uu_iload_n dX12_command1_291 rfl (List.mem_of_getElem? (i := 2) rfl) ?_
      obtain ⟨v44, e45, h⟩ := uu_ob h
      refine uu_iald e45 dX12_command1_292 ?_
      refine uu_bipush (v := 9) dX12_command1_293 (by decide) ?_
      refine uu_icmp_ne (tgt := 307) dX12_command1_295 (by decide) (fun c46 => ?_) (fun c46 => ?_)
      · replace h := uu_neg c46 h
        refine uu_aload_n dX12_command1_307 rfl (List.mem_of_getElem? (i := 1) rfl) ?_
        refine uu_geti (ci := 12) (N := 153) fX12_700 (by decide) so_1079.is (by decide) (by decide) dX12_command1_308 ?_
        refine uu_iload_n dX12_command1_311 rfl (List.mem_of_getElem? (i := 0) rfl) ?_
        refine uu_iconst (v := -1) dX12_command1_312 (by decide) ?_
        refine uu_ixor dX12_command1_313 ?_
        refine uu_iand dX12_command1_314 ?_
        refine uu_puti (ft := .int) (ci := 12) (N := 153) fX12_700 ptX12 (Or.inl rfl) (by decide) so_1079.is (by decide) (by decide) (by decide +kernel) rfl rfl dX12_command1_315 ?_
        have hr := Option.some.inj h
        subst hr
        exact uu_vret rfl dX12_command1_318
      · replace h := uu_pos c46 h
        refine uu_aload_n dX12_command1_298 rfl (List.mem_of_getElem? (i := 1) rfl) ?_
        refine uu_geti (ci := 12) (N := 153) fX12_700 (by decide) so_1079.is (by decide) (by decide) dX12_command1_299 ?_
        refine uu_iload_n dX12_command1_302 rfl (List.mem_of_getElem? (i := 0) rfl) ?_
        refine uu_ior dX12_command1_303 ?_
        refine uu_goto (tgt := 315) dX12_command1_304 (by decide) ?_
        refine uu_puti (ft := .int) (ci := 12) (N := 153) fX12_700 ptX12 (Or.inl rfl) (by decide) so_1079.is (by decide) (by decide) (by decide +kernel) rfl rfl dX12_command1_315 ?_
        have hr := Option.some.inj h
        subst hr
        exact uu_vret rfl dX12_command1_318
    · replace h := uu_pos c43 h
      refine uu_iload_n dX12_command1_283 rfl (List.mem_of_getElem? (i := 0) rfl) ?_
      refine uu_goto (tgt := 315) dX12_command1_284 (by decide) ?_
      refine uu_puti (ft := .int) (ci := 12) (N := 153) fX12_700 ptX12 (Or.inl rfl) (by decide) so_1079.is (by decide) (by decide) (by decide +kernel) rfl rfl dX12_command1_315 ?_
      have hr := Option.some.inj h
      subst hr
      exact uu_vret rfl dX12_command1_318
  replace h := uu_neg c6_8 h
  by_cases c6_9 : v1 = 9
  · replace h := uu_pos c6_9 h
    refine uu_tabE (tgt := 254) (off := 248) (v := 9) dX12_command1_6 c6_9 (by decide) (by decide) rfl (by decide) ?_
    refine uu_aload_n dX12_command1_254 rfl (List.mem_of_getElem? (i := 0) rfl) ?_
    refine uu_aload_n dX12_command1_255 rfl (List.mem_of_getElem? (i := 0) rfl) ?_
    refine uu_geta (ci := 12) (N := 153) fX12_439 (by decide) so_1079.is (by decide) (c := 1102) (by decide) dX12_command1_256 ?_
    refine uu_iload_n dX12_command1_259 rfl (List.mem_of_getElem? (i := 1) rfl) ?_
    obtain ⟨v47, e48, h⟩ := uu_ob h
    refine uu_iald e48 dX12_command1_260 ?_
    refine uu_aload_n dX12_command1_261 rfl (List.mem_of_getElem? (i := 0) rfl) ?_
    refine uu_geta (ci := 12) (N := 153) fX12_297 (by decide) so_1079.is (by decide) (c := 1103) (by decide) dX12_command1_262 ?_
    refine uu_iload_n dX12_command1_265 rfl (List.mem_of_getElem? (i := 1) rfl) ?_
    obtain ⟨v49, e50, h⟩ := uu_ob h
    refine uu_iald e50 dX12_command1_266 ?_
    obtain ⟨r51, e52, h⟩ := uu_ob h
    refine uu_cv (d1 := 7) (k := 1079) (ci := 12) (T := TX12) (N := 153) (As := [.int v47, .int v49]) (st := []) (st' := [.int r51.2]) (xc_X12_flagsOf uk  e52) so_1079.is (by decide) rfl kX12_flagsOf lX12_740 sX12_flagsOf (by omega) (Nat.le_of_ble_eq_true rfl) dX12_command1_267 rfl ?_
    refine uu_istore_n dX12_command1_270 rfl (by decide) rfl ?_
    refine uu_aload_n dX12_command1_271 rfl (List.mem_of_getElem? (i := 1) rfl) ?_
    refine uu_aload_n dX12_command1_272 rfl (List.mem_of_getElem? (i := 1) rfl) ?_
    refine uu_geta (ci := 12) (N := 153) fX12_285 (by decide) so_1079.is (by decide) (c := 1098) (by decide) dX12_command1_273 ?_
    refine uu_iload_n dX12_command1_276 rfl (List.mem_of_getElem? (i := 2) rfl) ?_
    obtain ⟨v53, e54, h⟩ := uu_ob h
    refine uu_iald e54 dX12_command1_277 ?_
    refine uu_bipush (v := 8) dX12_command1_278 (by decide) ?_
    refine uu_icmp_ne (tgt := 287) dX12_command1_280 (by decide) (fun c55 => ?_) (fun c55 => ?_)
    · replace h := uu_neg c55 h
      refine uu_aload_n dX12_command1_287 rfl (List.mem_of_getElem? (i := 1) rfl) ?_
      refine uu_geta (ci := 12) (N := 153) fX12_285 (by decide) so_1079.is (by decide) (c := 1098) (by decide) dX12_command1_288 ?_
      refine uu_iload_n dX12_command1_291 rfl (List.mem_of_getElem? (i := 2) rfl) ?_
      obtain ⟨v56, e57, h⟩ := uu_ob h
      refine uu_iald e57 dX12_command1_292 ?_
      refine uu_bipush (v := 9) dX12_command1_293 (by decide) ?_
      refine uu_icmp_ne (tgt := 307) dX12_command1_295 (by decide) (fun c58 => ?_) (fun c58 => ?_)
      · replace h := uu_neg c58 h
        refine uu_aload_n dX12_command1_307 rfl (List.mem_of_getElem? (i := 1) rfl) ?_
        refine uu_geti (ci := 12) (N := 153) fX12_700 (by decide) so_1079.is (by decide) (by decide) dX12_command1_308 ?_
        refine uu_iload_n dX12_command1_311 rfl (List.mem_of_getElem? (i := 0) rfl) ?_
        refine uu_iconst (v := -1) dX12_command1_312 (by decide) ?_
        refine uu_ixor dX12_command1_313 ?_
        refine uu_iand dX12_command1_314 ?_
        refine uu_puti (ft := .int) (ci := 12) (N := 153) fX12_700 ptX12 (Or.inl rfl) (by decide) so_1079.is (by decide) (by decide) (by decide +kernel) rfl rfl dX12_command1_315 ?_
        have hr := Option.some.inj h
        subst hr
        exact uu_vret rfl dX12_command1_318
      · replace h := uu_pos c58 h
        refine uu_aload_n dX12_command1_298 rfl (List.mem_of_getElem? (i := 1) rfl) ?_
        refine uu_geti (ci := 12) (N := 153) fX12_700 (by decide) so_1079.is (by decide) (by decide) dX12_command1_299 ?_
        refine uu_iload_n dX12_command1_302 rfl (List.mem_of_getElem? (i := 0) rfl) ?_
        refine uu_ior dX12_command1_303 ?_
        refine uu_goto (tgt := 315) dX12_command1_304 (by decide) ?_
        refine uu_puti (ft := .int) (ci := 12) (N := 153) fX12_700 ptX12 (Or.inl rfl) (by decide) so_1079.is (by decide) (by decide) (by decide +kernel) rfl rfl dX12_command1_315 ?_
        have hr := Option.some.inj h
        subst hr
        exact uu_vret rfl dX12_command1_318
    · replace h := uu_pos c55 h
      refine uu_iload_n dX12_command1_283 rfl (List.mem_of_getElem? (i := 0) rfl) ?_
      refine uu_goto (tgt := 315) dX12_command1_284 (by decide) ?_
      refine uu_puti (ft := .int) (ci := 12) (N := 153) fX12_700 ptX12 (Or.inl rfl) (by decide) so_1079.is (by decide) (by decide) (by decide +kernel) rfl rfl dX12_command1_315 ?_
      have hr := Option.some.inj h
      subst hr
      exact uu_vret rfl dX12_command1_318
  replace h := uu_neg c6_9 h
  by_cases c6_10 : v1 = 10
  · replace h := uu_pos c6_10 h
    refine uu_tabE (tgt := 254) (off := 248) (v := 10) dX12_command1_6 c6_10 (by decide) (by decide) rfl (by decide) ?_
    refine uu_aload_n dX12_command1_254 rfl (List.mem_of_getElem? (i := 0) rfl) ?_
    refine uu_aload_n dX12_command1_255 rfl (List.mem_of_getElem? (i := 0) rfl) ?_
    refine uu_geta (ci := 12) (N := 153) fX12_439 (by decide) so_1079.is (by decide) (c := 1102) (by decide) dX12_command1_256 ?_
    refine uu_iload_n dX12_command1_259 rfl (List.mem_of_getElem? (i := 1) rfl) ?_
    obtain ⟨v59, e60, h⟩ := uu_ob h
    refine uu_iald e60 dX12_command1_260 ?_
    refine uu_aload_n dX12_command1_261 rfl (List.mem_of_getElem? (i := 0) rfl) ?_
    refine uu_geta (ci := 12) (N := 153) fX12_297 (by decide) so_1079.is (by decide) (c := 1103) (by decide) dX12_command1_262 ?_
    refine uu_iload_n dX12_command1_265 rfl (List.mem_of_getElem? (i := 1) rfl) ?_
    obtain ⟨v61, e62, h⟩ := uu_ob h
    refine uu_iald e62 dX12_command1_266 ?_
    obtain ⟨r63, e64, h⟩ := uu_ob h
    refine uu_cv (d1 := 7) (k := 1079) (ci := 12) (T := TX12) (N := 153) (As := [.int v59, .int v61]) (st := []) (st' := [.int r63.2]) (xc_X12_flagsOf uk  e64) so_1079.is (by decide) rfl kX12_flagsOf lX12_740 sX12_flagsOf (by omega) (Nat.le_of_ble_eq_true rfl) dX12_command1_267 rfl ?_
    refine uu_istore_n dX12_command1_270 rfl (by decide) rfl ?_
    refine uu_aload_n dX12_command1_271 rfl (List.mem_of_getElem? (i := 1) rfl) ?_
    refine uu_aload_n dX12_command1_272 rfl (List.mem_of_getElem? (i := 1) rfl) ?_
    refine uu_geta (ci := 12) (N := 153) fX12_285 (by decide) so_1079.is (by decide) (c := 1098) (by decide) dX12_command1_273 ?_
    refine uu_iload_n dX12_command1_276 rfl (List.mem_of_getElem? (i := 2) rfl) ?_
    obtain ⟨v65, e66, h⟩ := uu_ob h
    refine uu_iald e66 dX12_command1_277 ?_
    refine uu_bipush (v := 8) dX12_command1_278 (by decide) ?_
    refine uu_icmp_ne (tgt := 287) dX12_command1_280 (by decide) (fun c67 => ?_) (fun c67 => ?_)
    · replace h := uu_neg c67 h
      refine uu_aload_n dX12_command1_287 rfl (List.mem_of_getElem? (i := 1) rfl) ?_
      refine uu_geta (ci := 12) (N := 153) fX12_285 (by decide) so_1079.is (by decide) (c := 1098) (by decide) dX12_command1_288 ?_
      refine uu_iload_n dX12_command1_291 rfl (List.mem_of_getElem? (i := 2) rfl) ?_
      obtain ⟨v68, e69, h⟩ := uu_ob h
      refine uu_iald e69 dX12_command1_292 ?_
      refine uu_bipush (v := 9) dX12_command1_293 (by decide) ?_
      refine uu_icmp_ne (tgt := 307) dX12_command1_295 (by decide) (fun c70 => ?_) (fun c70 => ?_)
      · replace h := uu_neg c70 h
        refine uu_aload_n dX12_command1_307 rfl (List.mem_of_getElem? (i := 1) rfl) ?_
        refine uu_geti (ci := 12) (N := 153) fX12_700 (by decide) so_1079.is (by decide) (by decide) dX12_command1_308 ?_
        refine uu_iload_n dX12_command1_311 rfl (List.mem_of_getElem? (i := 0) rfl) ?_
        refine uu_iconst (v := -1) dX12_command1_312 (by decide) ?_
        refine uu_ixor dX12_command1_313 ?_
        refine uu_iand dX12_command1_314 ?_
        refine uu_puti (ft := .int) (ci := 12) (N := 153) fX12_700 ptX12 (Or.inl rfl) (by decide) so_1079.is (by decide) (by decide) (by decide +kernel) rfl rfl dX12_command1_315 ?_
        have hr := Option.some.inj h
        subst hr
        exact uu_vret rfl dX12_command1_318
      · replace h := uu_pos c70 h
        refine uu_aload_n dX12_command1_298 rfl (List.mem_of_getElem? (i := 1) rfl) ?_
        refine uu_geti (ci := 12) (N := 153) fX12_700 (by decide) so_1079.is (by decide) (by decide) dX12_command1_299 ?_
        refine uu_iload_n dX12_command1_302 rfl (List.mem_of_getElem? (i := 0) rfl) ?_
        refine uu_ior dX12_command1_303 ?_
        refine uu_goto (tgt := 315) dX12_command1_304 (by decide) ?_
        refine uu_puti (ft := .int) (ci := 12) (N := 153) fX12_700 ptX12 (Or.inl rfl) (by decide) so_1079.is (by decide) (by decide) (by decide +kernel) rfl rfl dX12_command1_315 ?_
        have hr := Option.some.inj h
        subst hr
        exact uu_vret rfl dX12_command1_318
    · replace h := uu_pos c67 h
      refine uu_iload_n dX12_command1_283 rfl (List.mem_of_getElem? (i := 0) rfl) ?_
      refine uu_goto (tgt := 315) dX12_command1_284 (by decide) ?_
      refine uu_puti (ft := .int) (ci := 12) (N := 153) fX12_700 ptX12 (Or.inl rfl) (by decide) so_1079.is (by decide) (by decide) (by decide +kernel) rfl rfl dX12_command1_315 ?_
      have hr := Option.some.inj h
      subst hr
      exact uu_vret rfl dX12_command1_318
  replace h := uu_neg c6_10 h
  by_cases c6_11 : v1 = 11
  · replace h := uu_pos c6_11 h
    refine uu_tabE (tgt := 238) (off := 232) (v := 11) dX12_command1_6 c6_11 (by decide) (by decide) rfl (by decide) ?_
    refine uu_aload_n dX12_command1_238 rfl (List.mem_of_getElem? (i := 0) rfl) ?_
    refine uu_aload_n dX12_command1_239 rfl (List.mem_of_getElem? (i := 0) rfl) ?_
    refine uu_geti (ci := 12) (N := 153) fX12_758 (by decide) so_1079.is (by decide) (by decide) dX12_command1_240 ?_
    refine uu_iconst (v := 1) dX12_command1_243 (by decide) ?_
    refine uu_iadd dX12_command1_244 ?_
    refine uu_puti (ft := .int) (ci := 12) (N := 153) fX12_758 ptX12 (Or.inl rfl) (by decide) so_1079.is (by decide) (by decide) (by decide +kernel) rfl rfl dX12_command1_245 ?_
    refine uu_aload_n dX12_command1_248 rfl (List.mem_of_getElem? (i := 0) rfl) ?_
    refine uu_iload_n dX12_command1_249 rfl (List.mem_of_getElem? (i := 1) rfl) ?_
    refine uu_puti (ft := .int) (ci := 12) (N := 153) fX12_761 ptX12 (Or.inl rfl) (by decide) so_1079.is (by decide) (by decide) (by decide +kernel) rfl rfl dX12_command1_250 ?_
    have hr := Option.some.inj h
    subst hr
    exact uu_vret rfl dX12_command1_253
  replace h := uu_neg c6_11 h
  have cx6 : (v1).toInt < 0 ∨ 11 < (v1).toInt := by
    refine Decidable.byContradiction fun q => ?_
    rcases (show (v1).toInt = 0 ∨ (v1).toInt = 1 ∨ (v1).toInt = 2 ∨ (v1).toInt = 3 ∨ (v1).toInt = 4 ∨ (v1).toInt = 5 ∨ (v1).toInt = 6 ∨ (v1).toInt = 7 ∨ (v1).toInt = 8 ∨ (v1).toInt = 9 ∨ (v1).toInt = 10 ∨ (v1).toInt = 11 by omega) with q | q | q | q | q | q | q | q | q | q | q | q
    · exact c6_0 (sw_eq q (by decide))
    · exact c6_1 (sw_eq q (by decide))
    · exact c6_2 (sw_eq q (by decide))
    · exact c6_3 (sw_eq q (by decide))
    · exact c6_4 (sw_eq q (by decide))
    · exact c6_5 (sw_eq q (by decide))
    · exact c6_6 (sw_eq q (by decide))
    · exact c6_7 (sw_eq q (by decide))
    · exact c6_8 (sw_eq q (by decide))
    · exact c6_9 (sw_eq q (by decide))
    · exact c6_10 (sw_eq q (by decide))
    · exact c6_11 (sw_eq q (by decide))
  refine uu_tableOut (tgt := 254) dX12_command1_6 cx6 (by decide) ?_
  refine uu_aload_n dX12_command1_254 rfl (List.mem_of_getElem? (i := 0) rfl) ?_
  refine uu_aload_n dX12_command1_255 rfl (List.mem_of_getElem? (i := 0) rfl) ?_
  refine uu_geta (ci := 12) (N := 153) fX12_439 (by decide) so_1079.is (by decide) (c := 1102) (by decide) dX12_command1_256 ?_
  refine uu_iload_n dX12_command1_259 rfl (List.mem_of_getElem? (i := 1) rfl) ?_
  obtain ⟨v71, e72, h⟩ := uu_ob h
  refine uu_iald e72 dX12_command1_260 ?_
  refine uu_aload_n dX12_command1_261 rfl (List.mem_of_getElem? (i := 0) rfl) ?_
  refine uu_geta (ci := 12) (N := 153) fX12_297 (by decide) so_1079.is (by decide) (c := 1103) (by decide) dX12_command1_262 ?_
  refine uu_iload_n dX12_command1_265 rfl (List.mem_of_getElem? (i := 1) rfl) ?_
  obtain ⟨v73, e74, h⟩ := uu_ob h
  refine uu_iald e74 dX12_command1_266 ?_
  obtain ⟨r75, e76, h⟩ := uu_ob h
  refine uu_cv (d1 := 7) (k := 1079) (ci := 12) (T := TX12) (N := 153) (As := [.int v71, .int v73]) (st := []) (st' := [.int r75.2]) (xc_X12_flagsOf uk  e76) so_1079.is (by decide) rfl kX12_flagsOf lX12_740 sX12_flagsOf (by omega) (Nat.le_of_ble_eq_true rfl) dX12_command1_267 rfl ?_
  refine uu_istore_n dX12_command1_270 rfl (by decide) rfl ?_
  refine uu_aload_n dX12_command1_271 rfl (List.mem_of_getElem? (i := 1) rfl) ?_
  refine uu_aload_n dX12_command1_272 rfl (List.mem_of_getElem? (i := 1) rfl) ?_
  refine uu_geta (ci := 12) (N := 153) fX12_285 (by decide) so_1079.is (by decide) (c := 1098) (by decide) dX12_command1_273 ?_
  refine uu_iload_n dX12_command1_276 rfl (List.mem_of_getElem? (i := 2) rfl) ?_
  obtain ⟨v77, e78, h⟩ := uu_ob h
  refine uu_iald e78 dX12_command1_277 ?_
  refine uu_bipush (v := 8) dX12_command1_278 (by decide) ?_
  refine uu_icmp_ne (tgt := 287) dX12_command1_280 (by decide) (fun c79 => ?_) (fun c79 => ?_)
  · replace h := uu_neg c79 h
    refine uu_aload_n dX12_command1_287 rfl (List.mem_of_getElem? (i := 1) rfl) ?_
    refine uu_geta (ci := 12) (N := 153) fX12_285 (by decide) so_1079.is (by decide) (c := 1098) (by decide) dX12_command1_288 ?_
    refine uu_iload_n dX12_command1_291 rfl (List.mem_of_getElem? (i := 2) rfl) ?_
    obtain ⟨v80, e81, h⟩ := uu_ob h
    refine uu_iald e81 dX12_command1_292 ?_
    refine uu_bipush (v := 9) dX12_command1_293 (by decide) ?_
    refine uu_icmp_ne (tgt := 307) dX12_command1_295 (by decide) (fun c82 => ?_) (fun c82 => ?_)
    · replace h := uu_neg c82 h
      refine uu_aload_n dX12_command1_307 rfl (List.mem_of_getElem? (i := 1) rfl) ?_
      refine uu_geti (ci := 12) (N := 153) fX12_700 (by decide) so_1079.is (by decide) (by decide) dX12_command1_308 ?_
      refine uu_iload_n dX12_command1_311 rfl (List.mem_of_getElem? (i := 0) rfl) ?_
      refine uu_iconst (v := -1) dX12_command1_312 (by decide) ?_
      refine uu_ixor dX12_command1_313 ?_
      refine uu_iand dX12_command1_314 ?_
      refine uu_puti (ft := .int) (ci := 12) (N := 153) fX12_700 ptX12 (Or.inl rfl) (by decide) so_1079.is (by decide) (by decide) (by decide +kernel) rfl rfl dX12_command1_315 ?_
      have hr := Option.some.inj h
      subst hr
      exact uu_vret rfl dX12_command1_318
    · replace h := uu_pos c82 h
      refine uu_aload_n dX12_command1_298 rfl (List.mem_of_getElem? (i := 1) rfl) ?_
      refine uu_geti (ci := 12) (N := 153) fX12_700 (by decide) so_1079.is (by decide) (by decide) dX12_command1_299 ?_
      refine uu_iload_n dX12_command1_302 rfl (List.mem_of_getElem? (i := 0) rfl) ?_
      refine uu_ior dX12_command1_303 ?_
      refine uu_goto (tgt := 315) dX12_command1_304 (by decide) ?_
      refine uu_puti (ft := .int) (ci := 12) (N := 153) fX12_700 ptX12 (Or.inl rfl) (by decide) so_1079.is (by decide) (by decide) (by decide +kernel) rfl rfl dX12_command1_315 ?_
      have hr := Option.some.inj h
      subst hr
      exact uu_vret rfl dX12_command1_318
  · replace h := uu_pos c79 h
    refine uu_iload_n dX12_command1_283 rfl (List.mem_of_getElem? (i := 0) rfl) ?_
    refine uu_goto (tgt := 315) dX12_command1_284 (by decide) ?_
    refine uu_puti (ft := .int) (ci := 12) (N := 153) fX12_700 ptX12 (Or.inl rfl) (by decide) so_1079.is (by decide) (by decide) (by decide +kernel) rfl rfl dX12_command1_315 ?_
    have hr := Option.some.inj h
    subst hr
    exact uu_vret rfl dX12_command1_318
def fb_X12_choose_45 (R_X12_run : Int32 → uS → Option uS) (K9 : Bool → Int32 → uS → Option uS) (x3 : Int32) (bs0 : Bool) (s : uS) : Option uS := if bs0 = true then ((iget 20 s 1104 x3).bind fun v4 => (R_X12_run v4 s).bind fun s6 => (iget 20 s6 1101 x3).bind fun v8 => K9 bs0 v8 s6) else ((iget 20 s 1101 x3).bind fun v2 => K9 bs0 v2 s)
set_option maxRecDepth 100000 in
set_option maxHeartbeats 4000000 in
theorem xb_X12_choose_45 {l : Launch} {D : va_G} {A : Nat → ClassId} {B : Nat} {Z : State → Heap → Prop} {vF : Value} (uk : uK B Z vF) (un : uX A B Z) {n : Nat} {R_X12_run : Int32 → uS → Option uS} {K9 : Bool → Int32 → uS → Option uS} (hR_X12_run : ∀ (x1 : Int32) (s : uS) (r : uS), R_X12_run x1 s = some r → CU l D A B Z (48 + n) mX12_run s [.ref (B + 1079), .int x1] (r, none)) (hK9 : ∀ (b2 : Bool) (x3 : Int32)  (s : uS) (r : uS), K9 b2 x3 s = some r → GU l D A B Z mX12_choose (48 + (n + 1)) (r, none) s 9 [(0, .ref (B + 1079)), (2, .int (bI b2)), (3, .int x3)] []) {x3 : Int32} {bs0 : Bool} {s : uS} {r : uS}  (h : fb_X12_choose_45 R_X12_run K9 x3 bs0 s = some r) : GU l D A B Z mX12_choose (48 + (n + 1)) (r, none) s 45 [(0, .ref (B + 1079)), (3, .int x3)] [.int (bI bs0)] := by
  unfold fb_X12_choose_45 at h
  refine uu_istore_n dX12_choose_45 rfl (by decide) rfl ?_
  refine uu_iload_n dX12_choose_46 rfl (List.mem_of_getElem? (i := 0) rfl) ?_
  refine uu_ifb_eq (tgt := 60) dX12_choose_47 (by decide) (fun c1 => ?_) (fun c1 => ?_)
  · replace h := uu_neg c1 h
    refine uu_aload_n dX12_choose_60 rfl (List.mem_of_getElem? (i := 1) rfl) ?_
    refine uu_geta (ci := 12) (N := 153) fX12_294 (by decide) so_1079.is (by decide) (c := 1101) (by decide) dX12_choose_61 ?_
    refine uu_iload_n dX12_choose_64 rfl (List.mem_of_getElem? (i := 2) rfl) ?_
    obtain ⟨v2, e3, h⟩ := uu_ob h
    refine uu_iald e3 dX12_choose_65 ?_
    refine uu_istore_n dX12_choose_66 rfl (by decide) rfl ?_
    refine uu_goto (tgt := 9) dX12_choose_67 (by decide) ?_
    refine uu_lv [2, 1, 0] (lv' := [(0, .ref (B + 1079)), (2, .int (bI bs0)), (3, .int v2)]) rfl ?_
    exact hK9 bs0 v2 _ _ h
  · replace h := uu_pos c1 h
    refine uu_aload_n dX12_choose_50 rfl (List.mem_of_getElem? (i := 1) rfl) ?_
    refine uu_aload_n dX12_choose_51 rfl (List.mem_of_getElem? (i := 1) rfl) ?_
    refine uu_geta (ci := 12) (N := 153) fX12_454 (by decide) so_1079.is (by decide) (c := 1104) (by decide) dX12_choose_52 ?_
    refine uu_iload_n dX12_choose_55 rfl (List.mem_of_getElem? (i := 2) rfl) ?_
    obtain ⟨v4, e5, h⟩ := uu_ob h
    refine uu_iald e5 dX12_choose_56 ?_
    obtain ⟨s6, e7, h⟩ := uu_ob h
    refine uu_cv (d1 := 48 + n) (k := 1079) (ci := 12) (T := TX12) (N := 153) (As := [.int v4]) (st := []) (st' := []) (hR_X12_run _ _ _ e7) so_1079.is (by decide) rfl kX12_run lX12_764 sX12_run (by omega) (Nat.le_of_ble_eq_true rfl) dX12_choose_57 rfl ?_
    refine uu_aload_n dX12_choose_60 rfl (List.mem_of_getElem? (i := 1) rfl) ?_
    refine uu_geta (ci := 12) (N := 153) fX12_294 (by decide) so_1079.is (by decide) (c := 1101) (by decide) dX12_choose_61 ?_
    refine uu_iload_n dX12_choose_64 rfl (List.mem_of_getElem? (i := 2) rfl) ?_
    obtain ⟨v8, e9, h⟩ := uu_ob h
    refine uu_iald e9 dX12_choose_65 ?_
    refine uu_istore_n dX12_choose_66 rfl (by decide) rfl ?_
    refine uu_goto (tgt := 9) dX12_choose_67 (by decide) ?_
    refine uu_lv [2, 1, 0] (lv' := [(0, .ref (B + 1079)), (2, .int (bI bs0)), (3, .int v8)]) rfl ?_
    exact hK9 bs0 v8 _ _ h
def fb_X12_choose_9 (R_X12_run : Int32 → uS → Option uS) (K9 : Bool → Int32 → uS → Option uS) (b2 : Bool) (x3 : Int32) (s : uS) : Option uS := if x3 < 0 then (some s) else (if b2 = true then (some s) else ((iget 20 s 1102 x3).bind fun v3 => if v3 = (-1) then (fb_X12_choose_45 R_X12_run K9 x3 true s) else ((iget 20 s 1102 x3).bind fun v6 => ((fg_1 40) v6 s).bind fun r8 => if r8.2 = true then (fb_X12_choose_45 R_X12_run K9 x3 true r8.1) else (fb_X12_choose_45 R_X12_run K9 x3 false r8.1))))
set_option maxRecDepth 100000 in
set_option maxHeartbeats 4000000 in
theorem xb_X12_choose_9 {l : Launch} {D : va_G} {A : Nat → ClassId} {B : Nat} {Z : State → Heap → Prop} {vF : Value} (uk : uK B Z vF) (un : uX A B Z) {n : Nat} {R_X12_run : Int32 → uS → Option uS} {K9 : Bool → Int32 → uS → Option uS} (hR_X12_run : ∀ (x1 : Int32) (s : uS) (r : uS), R_X12_run x1 s = some r → CU l D A B Z (48 + n) mX12_run s [.ref (B + 1079), .int x1] (r, none)) (hK9 : ∀ (b2 : Bool) (x3 : Int32)  (s : uS) (r : uS), K9 b2 x3 s = some r → GU l D A B Z mX12_choose (48 + (n + 1)) (r, none) s 9 [(0, .ref (B + 1079)), (2, .int (bI b2)), (3, .int x3)] []) {b2 : Bool} {x3 : Int32} {s : uS} {r : uS}  (h : fb_X12_choose_9 R_X12_run K9 b2 x3 s = some r) : GU l D A B Z mX12_choose (48 + (n + 1)) (r, none) s 9 [(0, .ref (B + 1079)), (2, .int (bI b2)), (3, .int x3)] [] := by
  unfold fb_X12_choose_9 at h
  refine uu_iload_n dX12_choose_9 rfl (List.mem_of_getElem? (i := 2) rfl) ?_
  refine uu_if_lt (tgt := 70) dX12_choose_10 (by decide) (fun c1 => ?_) (fun c1 => ?_)
  · replace h := uu_pos c1 h
    have hr := Option.some.inj h
    subst hr
    exact uu_vret rfl dX12_choose_70
  · replace h := uu_neg c1 h
    refine uu_iload_n dX12_choose_13 rfl (List.mem_of_getElem? (i := 1) rfl) ?_
    refine uu_ifb_ne (tgt := 70) dX12_choose_14 (by decide) (fun c2 => ?_) (fun c2 => ?_)
    · replace h := uu_pos c2 h
      have hr := Option.some.inj h
      subst hr
      exact uu_vret rfl dX12_choose_70
    · replace h := uu_neg c2 h
      refine uu_aload_n dX12_choose_17 rfl (List.mem_of_getElem? (i := 0) rfl) ?_
      refine uu_geta (ci := 12) (N := 153) fX12_439 (by decide) so_1079.is (by decide) (c := 1102) (by decide) dX12_choose_18 ?_
      refine uu_iload_n dX12_choose_21 rfl (List.mem_of_getElem? (i := 2) rfl) ?_
      obtain ⟨v3, e4, h⟩ := uu_ob h
      refine uu_iald e4 dX12_choose_22 ?_
      refine uu_iconst (v := -1) dX12_choose_23 (by decide) ?_
      refine uu_icmp_eq (tgt := 40) dX12_choose_24 (by decide) (fun c5 => ?_) (fun c5 => ?_)
      · replace h := uu_pos c5 h
        refine uu_iconst (v := 1) dX12_choose_40 (by decide) ?_
        refine uu_goto (tgt := 45) dX12_choose_41 (by decide) ?_
        refine uu_lv [0, 2] (lv' := [(0, .ref (B + 1079)), (3, .int x3)]) rfl ?_
        exact xb_X12_choose_45 uk un hR_X12_run hK9 h
      · replace h := uu_neg c5 h
        refine uu_aload_n dX12_choose_27 rfl (List.mem_of_getElem? (i := 0) rfl) ?_
        refine uu_aload_n dX12_choose_28 rfl (List.mem_of_getElem? (i := 0) rfl) ?_
        refine uu_geta (ci := 12) (N := 153) fX12_439 (by decide) so_1079.is (by decide) (c := 1102) (by decide) dX12_choose_29 ?_
        refine uu_iload_n dX12_choose_32 rfl (List.mem_of_getElem? (i := 2) rfl) ?_
        obtain ⟨v6, e7, h⟩ := uu_ob h
        refine uu_iald e7 dX12_choose_33 ?_
        obtain ⟨r8, e9, h⟩ := uu_ob h
        refine uu_cv (d1 := 47) (k := 1079) (ci := 12) (T := TX12) (N := 153) (As := [.int v6]) (st := []) (st' := [.int (bI r8.2)]) ((xg_1 uk un 40) _ _ _ e9) so_1079.is (by decide) rfl kX12_holds lX12_725 sX12_holds (by omega) (Nat.le_of_ble_eq_true rfl) dX12_choose_34 rfl ?_
        refine uu_ifb_eq (tgt := 44) dX12_choose_37 (by decide) (fun c10 => ?_) (fun c10 => ?_)
        · replace h := uu_neg c10 h
          refine uu_iconst (v := 0) dX12_choose_44 (by decide) ?_
          refine uu_lv [0, 2] (lv' := [(0, .ref (B + 1079)), (3, .int x3)]) rfl ?_
          exact xb_X12_choose_45 uk un hR_X12_run hK9 h
        · replace h := uu_pos c10 h
          refine uu_iconst (v := 1) dX12_choose_40 (by decide) ?_
          refine uu_goto (tgt := 45) dX12_choose_41 (by decide) ?_
          refine uu_lv [0, 2] (lv' := [(0, .ref (B + 1079)), (3, .int x3)]) rfl ?_
          exact xb_X12_choose_45 uk un hR_X12_run hK9 h
def fn_X12_choose_9 (R_X12_run : Int32 → uS → Option uS)  : Nat → Bool → Int32 → uS → Option uS
  | 0 => fun _ _ _ => none
  | t + 1 => fb_X12_choose_9 R_X12_run (fn_X12_choose_9 R_X12_run  t)
set_option maxRecDepth 100000 in
set_option maxHeartbeats 4000000 in
theorem xn_X12_choose_9 {l : Launch} {D : va_G} {A : Nat → ClassId} {B : Nat} {Z : State → Heap → Prop} {vF : Value} (uk : uK B Z vF) (un : uX A B Z) {n : Nat} {R_X12_run : Int32 → uS → Option uS}  (hR_X12_run : ∀ (x1 : Int32) (s : uS) (r : uS), R_X12_run x1 s = some r → CU l D A B Z (48 + n) mX12_run s [.ref (B + 1079), .int x1] (r, none))  : ∀ (t : Nat) (b2 : Bool) (x3 : Int32)  (s : uS) (r : uS), fn_X12_choose_9 R_X12_run  t b2 x3 s = some r → GU l D A B Z mX12_choose (48 + (n + 1)) (r, none) s 9 [(0, .ref (B + 1079)), (2, .int (bI b2)), (3, .int x3)] [] := by
  intro t
  induction t with
  | zero => intro b2 x3 s r h
            cases h
  | succ t ih => intro b2 x3 s r h
                 exact xb_X12_choose_9 uk un hR_X12_run ih  h
def fn_X12_choose (R_X12_run : Int32 → uS → Option uS) (x1 : Int32) (s : uS) : Option uS := (iget 20 s 1099 x1).bind fun v1 => fn_X12_choose_9 R_X12_run uFu false v1 s
set_option maxRecDepth 100000 in
set_option maxHeartbeats 4000000 in
theorem xc_X12_choose {l : Launch} {D : va_G} {A : Nat → ClassId} {B : Nat} {Z : State → Heap → Prop} {vF : Value} (uk : uK B Z vF) (un : uX A B Z) {n : Nat} {R_X12_run : Int32 → uS → Option uS} (hR_X12_run : ∀ (x1 : Int32) (s : uS) (r : uS), R_X12_run x1 s = some r → CU l D A B Z (48 + n) mX12_run s [.ref (B + 1079), .int x1] (r, none)) {x1 : Int32} {s : uS} {r : uS}  (h : fn_X12_choose R_X12_run x1 s = some r) : CU l D A B Z (48 + (n + 1)) mX12_choose s [.ref (B + 1079), .int x1] (r, none) := by
  unfold fn_X12_choose at h
  refine cu_of rfl uk.1.1 (Nat.le_of_ble_eq_true rfl) ?_
  show GU _ _ _ _ _ _ _ _ _ 0 [(0, .ref (B + 1079)), (1, .int x1)] []
  refine uu_iconst (v := 0) dX12_choose_0 (by decide) ?_
  refine uu_istore_n dX12_choose_1 rfl (by decide) rfl ?_
  refine uu_aload_n dX12_choose_2 rfl (List.mem_of_getElem? (i := 1) rfl) ?_
  refine uu_geta (ci := 12) (N := 153) fX12_288 (by decide) so_1079.is (by decide) (c := 1099) (by decide) dX12_choose_3 ?_
  refine uu_iload_n dX12_choose_6 rfl (List.mem_of_getElem? (i := 2) rfl) ?_
  obtain ⟨v1, e2, h⟩ := uu_ob h
  refine uu_iald e2 dX12_choose_7 ?_
  refine uu_istore_n dX12_choose_8 rfl (by decide) rfl ?_
  refine uu_lv [2, 1, 0] (lv' := [(0, .ref (B + 1079)), (2, .int 0), (3, .int v1)]) rfl ?_
  exact xn_X12_choose_9 uk un hR_X12_run _ _ _ _ _ h
def fg_2 : Nat → (Int32 → uS → Option uS) × (Int32 → uS → Option uS) × (Int32 → uS → Option uS)
  | 0 => (fun _ _ => none, fun _ _ => none, fun _ _ => none)
  | n + 1 => (fn_X12_run ((fg_2 n).2.1), fn_X12_command1 ((fg_2 n).2.2), fn_X12_choose ((fg_2 n).1))
set_option maxRecDepth 100000 in
set_option maxHeartbeats 4000000 in
theorem xg_2 {l : Launch} {D : va_G} {A : Nat → ClassId} {B : Nat} {Z : State → Heap → Prop} {vF : Value} (uk : uK B Z vF) (un : uX A B Z) : ∀ n : Nat, (∀ (x1 : Int32) (s : uS) (r : uS), (fg_2 n).1 x1 s = some r → CU l D A B Z (48 + n) mX12_run s [.ref (B + 1079), .int x1] (r, none)) ∧ (∀ (x1 : Int32) (s : uS) (r : uS), (fg_2 n).2.1 x1 s = some r → CU l D A B Z (48 + n) mX12_command1 s [.ref (B + 1079), .int x1] (r, none)) ∧ (∀ (x1 : Int32) (s : uS) (r : uS), (fg_2 n).2.2 x1 s = some r → CU l D A B Z (48 + n) mX12_choose s [.ref (B + 1079), .int x1] (r, none)) := by
  intro n
  induction n with
  | zero => exact ⟨fun x1 s r h => (by cases h), fun x1 s r h => (by cases h), fun x1 s r h => (by cases h)⟩
  | succ n ih => exact ⟨fun x1 s r h => xc_X12_run uk un ih.2.1 h, fun x1 s r h => xc_X12_command1 uk un ih.2.2 h, fun x1 s r h => xc_X12_choose uk un ih.1 h⟩
abbrev mX12_sortIt : hM := (yX12_sortIt, cX12_sortIt, 2, none)
theorem dX12_sortIt_46 : decode cX12_sortIt 46 = .ok (.aload_n 0, 1) := by decide +kernel
theorem dX12_sortIt_47 : decode cX12_sortIt 47 = .ok (.getfield 737, 3) := by decide +kernel
theorem dX12_sortIt_50 : decode cX12_sortIt 50 = .ok (.ifCond .eq 12, 3) := by decide +kernel
theorem dX12_sortIt_62 : decode cX12_sortIt 62 = .ok (.return_, 1) := by decide +kernel
theorem dX12_sortIt_53 : decode cX12_sortIt 53 = .ok (.aload_n 0, 1) := by decide +kernel
theorem dX12_sortIt_54 : decode cX12_sortIt 54 = .ok (.iconst (-1), 1) := by decide +kernel
theorem dX12_sortIt_55 : decode cX12_sortIt 55 = .ok (.aload_n 0, 1) := by decide +kernel
theorem dX12_sortIt_56 : decode cX12_sortIt 56 = .ok (.getfield 700, 3) := by decide +kernel
theorem dX12_sortIt_59 : decode cX12_sortIt 59 = .ok (.invokevirtual 743, 3) := by decide +kernel
theorem dX12_sortIt_0 : decode cX12_sortIt 0 = .ok (.aload_n 0, 1) := by decide +kernel
theorem kX12_begin : h_ml mX12_begin 0 := ⟨h_t8 48 rfl rfl, h_t1 16 rfl rfl, ⟨by decide, by decide, by decide +kernel⟩, by decide⟩
theorem lX12_929 : Cond.methodLink RX12 929 mX12_begin.1 ∈ lw_g := h_t8 45 rfl rfl
theorem sX12_begin : Cond.instanceMethod mX12_begin.1 ∈ lw_g ∧ Cond.selects mX12_begin.1.cls mX12_begin.1 mX12_begin.1 ∈ lw_g := ⟨h_t8 47 rfl rfl, h_ins 115 rfl⟩
theorem dX12_sortIt_1 : decode cX12_sortIt 1 = .ok (.invokevirtual 929, 3) := by decide +kernel
theorem dX12_sortIt_4 : decode cX12_sortIt 4 = .ok (.aload_n 0, 1) := by decide +kernel
theorem dX12_sortIt_5 : decode cX12_sortIt 5 = .ok (.aload_n 0, 1) := by decide +kernel
theorem dX12_sortIt_6 : decode cX12_sortIt 6 = .ok (.getfield 799, 3) := by decide +kernel
theorem kX12_activeOf : h_ml mX12_activeOf 1 := ⟨h_t8 52 rfl rfl, h_t1 16 rfl rfl, ⟨by decide, by decide, by decide +kernel⟩, by decide⟩
theorem lX12_932 : Cond.methodLink RX12 932 mX12_activeOf.1 ∈ lw_g := h_t8 49 rfl rfl
theorem sX12_activeOf : Cond.instanceMethod mX12_activeOf.1 ∈ lw_g ∧ Cond.selects mX12_activeOf.1.cls mX12_activeOf.1 mX12_activeOf.1 ∈ lw_g := ⟨h_t8 51 rfl rfl, h_ins 116 rfl⟩
theorem dX12_sortIt_9 : decode cX12_sortIt 9 = .ok (.invokevirtual 932, 3) := by decide +kernel
theorem dX12_sortIt_12 : decode cX12_sortIt 12 = .ok (.istore_n 1, 1) := by decide +kernel
theorem dX12_sortIt_13 : decode cX12_sortIt 13 = .ok (.iload_n 1, 1) := by decide +kernel
theorem dX12_sortIt_14 : decode cX12_sortIt 14 = .ok (.ifCond .lt 32, 3) := by decide +kernel
theorem dX12_sortIt_17 : decode cX12_sortIt 17 = .ok (.aload_n 0, 1) := by decide +kernel
theorem dX12_sortIt_18 : decode cX12_sortIt 18 = .ok (.iload_n 1, 1) := by decide +kernel
theorem dX12_sortIt_19 : decode cX12_sortIt 19 = .ok (.invokevirtual 935, 3) := by decide +kernel
theorem dX12_sortIt_22 : decode cX12_sortIt 22 = .ok (.aload_n 0, 1) := by decide +kernel
theorem kX12_read : h_ml mX12_read 0 := ⟨h_t8 60 rfl rfl, h_t1 16 rfl rfl, ⟨by decide, by decide, by decide +kernel⟩, by decide⟩
theorem lX12_938 : Cond.methodLink RX12 938 mX12_read.1 ∈ lw_g := h_t8 57 rfl rfl
theorem sX12_read : Cond.instanceMethod mX12_read.1 ∈ lw_g ∧ Cond.selects mX12_read.1.cls mX12_read.1 mX12_read.1 ∈ lw_g := ⟨h_t8 59 rfl rfl, h_ins 118 rfl⟩
theorem dX12_sortIt_23 : decode cX12_sortIt 23 = .ok (.invokevirtual 938, 3) := by decide +kernel
theorem dX12_sortIt_26 : decode cX12_sortIt 26 = .ok (.pop, 1) := by decide +kernel
theorem dX12_sortIt_27 : decode cX12_sortIt 27 = .ok (.aload_n 0, 1) := by decide +kernel
theorem dX12_sortIt_28 : decode cX12_sortIt 28 = .ok (.aload_n 0, 1) := by decide +kernel
theorem dX12_sortIt_29 : decode cX12_sortIt 29 = .ok (.getfield 372, 3) := by decide +kernel
theorem dX12_sortIt_32 : decode cX12_sortIt 32 = .ok (.invokevirtual 764, 3) := by decide +kernel
theorem dX12_sortIt_35 : decode cX12_sortIt 35 = .ok (.aload_n 0, 1) := by decide +kernel
theorem kX12_fails : h_ml mX12_fails 0 := ⟨h_t10 23 rfl rfl, h_t1 16 rfl rfl, ⟨by decide, by decide, by decide +kernel⟩, by decide⟩
theorem lX12_941 : Cond.methodLink RX12 941 mX12_fails.1 ∈ lw_g := h_t10 20 rfl rfl
theorem sX12_fails : Cond.instanceMethod mX12_fails.1 ∈ lw_g ∧ Cond.selects mX12_fails.1.cls mX12_fails.1 mX12_fails.1 ∈ lw_g := ⟨h_t10 22 rfl rfl, h_ins 203 rfl⟩
theorem dX12_sortIt_36 : decode cX12_sortIt 36 = .ok (.invokevirtual 941, 3) := by decide +kernel
theorem dX12_sortIt_39 : decode cX12_sortIt 39 = .ok (.ifCond .eq 7, 3) := by decide +kernel
theorem dX12_sortIt_42 : decode cX12_sortIt 42 = .ok (.aload_n 0, 1) := by decide +kernel
theorem dX12_sortIt_43 : decode cX12_sortIt 43 = .ok (.invokevirtual 929, 3) := by decide +kernel
def fb_X12_sortIt_46   (s : uS) : Option uS := if (s.I 1079 95) = 0 then (some s) else ((fn_X12_file1 (-1) (s.I 1079 94) s).bind fun s2 => some s2)
set_option maxRecDepth 100000 in
set_option maxHeartbeats 4000000 in
theorem xb_X12_sortIt_46 {l : Launch} {D : va_G} {A : Nat → ClassId} {B : Nat} {Z : State → Heap → Prop} {vF : Value} (uk : uK B Z vF) (un : uX A B Z)    {s : uS} {r : uS}  (h : fb_X12_sortIt_46   s = some r) : GU l D A B Z mX12_sortIt 113 (r, none) s 46 [(0, .ref (B + 1079))] [] := by
  unfold fb_X12_sortIt_46 at h
  refine uu_aload_n dX12_sortIt_46 rfl (List.mem_of_getElem? (i := 0) rfl) ?_
  refine uu_geti (ci := 12) (N := 153) fX12_737 (by decide) so_1079.is (by decide) (by decide) dX12_sortIt_47 ?_
  refine uu_if_eq (tgt := 62) dX12_sortIt_50 (by decide) (fun c1 => ?_) (fun c1 => ?_)
  · replace h := uu_pos c1 h
    have hr := Option.some.inj h
    subst hr
    exact uu_vret rfl dX12_sortIt_62
  · replace h := uu_neg c1 h
    refine uu_aload_n dX12_sortIt_53 rfl (List.mem_of_getElem? (i := 0) rfl) ?_
    refine uu_iconst (v := -1) dX12_sortIt_54 (by decide) ?_
    refine uu_aload_n dX12_sortIt_55 rfl (List.mem_of_getElem? (i := 0) rfl) ?_
    refine uu_geti (ci := 12) (N := 153) fX12_700 (by decide) so_1079.is (by decide) (by decide) dX12_sortIt_56 ?_
    obtain ⟨s2, e3, h⟩ := uu_ob h
    refine uu_cv (d1 := 8) (k := 1079) (ci := 12) (T := TX12) (N := 153) (As := [.int (-1), .int (s.I 1079 94)]) (st := []) (st' := []) (xc_X12_file1 uk  e3) so_1079.is (by decide) rfl kX12_file1 lX12_743 sX12_file1 (by decide) (Nat.le_of_ble_eq_true rfl) dX12_sortIt_59 rfl ?_
    have hr := Option.some.inj h
    subst hr
    exact uu_vret rfl dX12_sortIt_62
def fn_X12_sortIt  (s : uS) : Option uS := (fn_X12_begin s).bind fun s1 => (fn_X12_activeOf (s1.I 1079 89) s1).bind fun v3 => if v3 < 0 then (fb_X12_sortIt_46 s1) else ((fn_X12_loadScript v3 s1).bind fun s6 => (fn_X12_read s6).bind fun r8 => ((fg_2 60).1 (r8.1.I 1079 67) r8.1).bind fun s10 => (fn_X12_fails s10).bind fun r12 => if r12.2 = true then ((fn_X12_begin r12.1).bind fun s15 => fb_X12_sortIt_46 s15) else (fb_X12_sortIt_46 r12.1))
set_option maxRecDepth 100000 in
set_option maxHeartbeats 4000000 in
theorem xc_X12_sortIt {l : Launch} {D : va_G} {A : Nat → ClassId} {B : Nat} {Z : State → Heap → Prop} {vF : Value} (uk : uK B Z vF) (un : uX A B Z)  {s : uS} {r : uS}  (h : fn_X12_sortIt  s = some r) : CU l D A B Z 113 mX12_sortIt s [.ref (B + 1079)] (r, none) := by
  unfold fn_X12_sortIt at h
  refine cu_of rfl uk.1.1 (Nat.le_of_ble_eq_true rfl) ?_
  show GU _ _ _ _ _ _ _ _ _ 0 [(0, .ref (B + 1079))] []
  refine uu_aload_n dX12_sortIt_0 rfl (List.mem_of_getElem? (i := 0) rfl) ?_
  obtain ⟨s1, e2, h⟩ := uu_ob h
  refine uu_cv (d1 := 0) (k := 1079) (ci := 12) (T := TX12) (N := 153) (As := []) (st := []) (st' := []) (xc_X12_begin uk  e2) so_1079.is (by decide) rfl kX12_begin lX12_929 sX12_begin (by decide) (Nat.le_of_ble_eq_true rfl) dX12_sortIt_1 rfl ?_
  refine uu_aload_n dX12_sortIt_4 rfl (List.mem_of_getElem? (i := 0) rfl) ?_
  refine uu_aload_n dX12_sortIt_5 rfl (List.mem_of_getElem? (i := 0) rfl) ?_
  refine uu_geti (ci := 12) (N := 153) fX12_799 (by decide) so_1079.is (by decide) (by decide) dX12_sortIt_6 ?_
  obtain ⟨v3, e4, h⟩ := uu_ob h
  refine uu_cv (d1 := 0) (k := 1079) (ci := 12) (T := TX12) (N := 153) (As := [.int (s1.I 1079 89)]) (st := []) (st' := [.int v3]) (xc_X12_activeOf uk  e4) so_1079.is (by decide) rfl kX12_activeOf lX12_932 sX12_activeOf (by decide) (Nat.le_of_ble_eq_true rfl) dX12_sortIt_9 rfl ?_
  refine uu_istore_n dX12_sortIt_12 rfl (by decide) rfl ?_
  refine uu_iload_n dX12_sortIt_13 rfl (List.mem_of_getElem? (i := 0) rfl) ?_
  refine uu_if_lt (tgt := 46) dX12_sortIt_14 (by decide) (fun c5 => ?_) (fun c5 => ?_)
  · replace h := uu_pos c5 h
    refine uu_lv [1] (lv' := [(0, .ref (B + 1079))]) rfl ?_
    exact xb_X12_sortIt_46 uk un  h
  · replace h := uu_neg c5 h
    refine uu_aload_n dX12_sortIt_17 rfl (List.mem_of_getElem? (i := 1) rfl) ?_
    refine uu_iload_n dX12_sortIt_18 rfl (List.mem_of_getElem? (i := 0) rfl) ?_
    obtain ⟨s6, e7, h⟩ := uu_ob h
    refine uu_cv (d1 := 0) (k := 1079) (ci := 12) (T := TX12) (N := 153) (As := [.int v3]) (st := []) (st' := []) (xc_X12_loadScript uk  e7) so_1079.is (by decide) rfl kX12_loadScript lX12_935 sX12_loadScript (by decide) (Nat.le_of_ble_eq_true rfl) dX12_sortIt_19 rfl ?_
    refine uu_aload_n dX12_sortIt_22 rfl (List.mem_of_getElem? (i := 1) rfl) ?_
    obtain ⟨r8, e9, h⟩ := uu_ob h
    refine uu_cv (d1 := 112) (k := 1079) (ci := 12) (T := TX12) (N := 153) (As := []) (st := []) (st' := [.int r8.2]) (xc_X12_read uk un  e9) so_1079.is (by decide) rfl kX12_read lX12_938 sX12_read (by decide) (Nat.le_of_ble_eq_true rfl) dX12_sortIt_23 rfl ?_
    refine uu_pop dX12_sortIt_26 rfl ?_
    refine uu_aload_n dX12_sortIt_27 rfl (List.mem_of_getElem? (i := 1) rfl) ?_
    refine uu_aload_n dX12_sortIt_28 rfl (List.mem_of_getElem? (i := 1) rfl) ?_
    refine uu_geti (ci := 12) (N := 153) fX12_372 (by decide) so_1079.is (by decide) (by decide) dX12_sortIt_29 ?_
    obtain ⟨s10, e11, h⟩ := uu_ob h
    refine uu_cv (d1 := 108) (k := 1079) (ci := 12) (T := TX12) (N := 153) (As := [.int (r8.1.I 1079 67)]) (st := []) (st' := []) ((xg_2 uk un 60).1 _ _ _ e11) so_1079.is (by decide) rfl kX12_run lX12_764 sX12_run (by decide) (Nat.le_of_ble_eq_true rfl) dX12_sortIt_32 rfl ?_
    refine uu_aload_n dX12_sortIt_35 rfl (List.mem_of_getElem? (i := 1) rfl) ?_
    obtain ⟨r12, e13, h⟩ := uu_ob h
    refine uu_cv (d1 := 9) (k := 1079) (ci := 12) (T := TX12) (N := 153) (As := []) (st := []) (st' := [.int (bI r12.2)]) (xc_X12_fails uk  e13) so_1079.is (by decide) rfl kX12_fails lX12_941 sX12_fails (by decide) (Nat.le_of_ble_eq_true rfl) dX12_sortIt_36 rfl ?_
    refine uu_ifb_eq (tgt := 46) dX12_sortIt_39 (by decide) (fun c14 => ?_) (fun c14 => ?_)
    · replace h := uu_neg c14 h
      refine uu_lv [1] (lv' := [(0, .ref (B + 1079))]) rfl ?_
      exact xb_X12_sortIt_46 uk un  h
    · replace h := uu_pos c14 h
      refine uu_aload_n dX12_sortIt_42 rfl (List.mem_of_getElem? (i := 1) rfl) ?_
      obtain ⟨s15, e16, h⟩ := uu_ob h
      refine uu_cv (d1 := 0) (k := 1079) (ci := 12) (T := TX12) (N := 153) (As := []) (st := []) (st' := []) (xc_X12_begin uk  e16) so_1079.is (by decide) rfl kX12_begin lX12_929 sX12_begin (by decide) (Nat.le_of_ble_eq_true rfl) dX12_sortIt_43 rfl ?_
      refine uu_lv [1] (lv' := [(0, .ref (B + 1079))]) rfl ?_
      exact xb_X12_sortIt_46 uk un  h
