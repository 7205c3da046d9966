abbrev mX7_run : hM := (yX7_run, cX7_run, 4, none)
theorem dX7_run_4 : decode cX7_run 4 = .ok (.iload_n 2, 1) := by decide +kernel
theorem dX7_run_5 : decode cX7_run 5 = .ok (.sipush 320, 3) := by decide +kernel
theorem dX7_run_8 : decode cX7_run 8 = .ok (.if_icmp .ge 105, 3) := by decide +kernel
theorem dX7_run_113 : decode cX7_run 113 = .ok (.return_, 1) := by decide +kernel
theorem dX7_run_11 : decode cX7_run 11 = .ok (.iload_n 1, 1) := by decide +kernel
theorem dX7_run_12 : decode cX7_run 12 = .ok (.aload_n 0, 1) := by decide +kernel
theorem dX7_run_13 : decode cX7_run 13 = .ok (.getfield 33, 3) := by decide +kernel
theorem dX7_run_16 : decode cX7_run 16 = .ok (.getfield 89, 3) := by decide +kernel
theorem dX7_run_19 : decode cX7_run 19 = .ok (.if_icmp .ge 94, 3) := by decide +kernel
theorem dX7_run_22 : decode cX7_run 22 = .ok (.aload_n 0, 1) := by decide +kernel
theorem dX7_run_23 : decode cX7_run 23 = .ok (.getfield 53, 3) := by decide +kernel
theorem dX7_run_26 : decode cX7_run 26 = .ok (.ifCond .ne 87, 3) := by decide +kernel
theorem dX7_run_29 : decode cX7_run 29 = .ok (.aload_n 0, 1) := by decide +kernel
theorem dX7_run_30 : decode cX7_run 30 = .ok (.getfield 33, 3) := by decide +kernel
theorem dX7_run_33 : decode cX7_run 33 = .ok (.getfield 92, 3) := by decide +kernel
theorem dX7_run_36 : decode cX7_run 36 = .ok (.iload_n 1, 1) := by decide +kernel
theorem dX7_run_37 : decode cX7_run 37 = .ok (.aaload, 1) := by decide +kernel
theorem dX7_run_38 : decode cX7_run 38 = .ok (.astore_n 3, 1) := by decide +kernel
theorem dX7_run_39 : decode cX7_run 39 = .ok (.aload_n 3, 1) := by decide +kernel
theorem kX3_isSimpleTest : h_ml mX3_isSimpleTest 0 := ⟨h_t5 136 rfl rfl, h_t1 5 rfl rfl, ⟨by decide, by decide, by decide +kernel⟩, by decide⟩
theorem lX7_96 : Cond.methodLink RX7 96 mX3_isSimpleTest.1 ∈ lw_g := h_t5 133 rfl rfl
theorem sX3_isSimpleTest : Cond.instanceMethod mX3_isSimpleTest.1 ∈ lw_g ∧ Cond.selects mX3_isSimpleTest.1.cls mX3_isSimpleTest.1 mX3_isSimpleTest.1 ∈ lw_g := ⟨h_t5 134 rfl rfl, h_t5 135 rfl rfl⟩
theorem dX7_run_40 : decode cX7_run 40 = .ok (.invokevirtual 96, 3) := by decide +kernel
theorem dX7_run_43 : decode cX7_run 43 = .ok (.ifCond .eq 36, 3) := by decide +kernel
theorem dX7_run_79 : decode cX7_run 79 = .ok (.aload_n 3, 1) := by decide +kernel
theorem dX7_run_80 : decode cX7_run 80 = .ok (.getfield 116, 3) := by decide +kernel
theorem dX7_run_83 : decode cX7_run 83 = .ok (.bipush 24, 2) := by decide +kernel
theorem dX7_run_85 : decode cX7_run 85 = .ok (.if_icmp .ne 14, 3) := by decide +kernel
theorem dX7_run_99 : decode cX7_run 99 = .ok (.aload_n 0, 1) := by decide +kernel
theorem dX7_run_100 : decode cX7_run 100 = .ok (.aload_n 3, 1) := by decide +kernel
theorem kX7_perform : h_ml mX7_perform 1 := ⟨h_t6 11 rfl rfl, h_t1 15 rfl rfl, ⟨by decide, by decide, by decide +kernel⟩, by decide⟩
theorem lX7_123 : Cond.methodLink RX7 123 mX7_perform.1 ∈ lw_g := h_t6 8 rfl rfl
theorem sX7_perform : Cond.instanceMethod mX7_perform.1 ∈ lw_g ∧ Cond.selects mX7_perform.1.cls mX7_perform.1 mX7_perform.1 ∈ lw_g := ⟨h_t6 10 rfl rfl, h_ins 57 rfl⟩
theorem dX7_run_101 : decode cX7_run 101 = .ok (.invokevirtual 123, 3) := by decide +kernel
theorem dX7_run_104 : decode cX7_run 104 = .ok (.iinc 1 1, 3) := by decide +kernel
theorem dX7_run_107 : decode cX7_run 107 = .ok (.iinc 2 1, 3) := by decide +kernel
theorem dX7_run_110 : decode cX7_run 110 = .ok (.goto (-106), 3) := by decide +kernel
theorem dX7_run_88 : decode cX7_run 88 = .ok (.aload_n 0, 1) := by decide +kernel
theorem dX7_run_89 : decode cX7_run 89 = .ok (.iload_n 1, 1) := by decide +kernel
theorem dX7_run_90 : decode cX7_run 90 = .ok (.iconst 1, 1) := by decide +kernel
theorem dX7_run_91 : decode cX7_run 91 = .ok (.iadd, 1) := by decide +kernel
theorem kX7_behindElses : h_ml mX7_behindElses 1 := ⟨h_t6 2 rfl rfl, h_t1 15 rfl rfl, ⟨by decide, by decide, by decide +kernel⟩, by decide⟩
theorem lX7_119 : Cond.methodLink RX7 119 mX7_behindElses.1 ∈ lw_g := h_t5 239 rfl rfl
theorem sX7_behindElses : Cond.instanceMethod mX7_behindElses.1 ∈ lw_g ∧ Cond.selects mX7_behindElses.1.cls mX7_behindElses.1 mX7_behindElses.1 ∈ lw_g := ⟨h_t6 1 rfl rfl, h_ins 56 rfl⟩
theorem dX7_run_92 : decode cX7_run 92 = .ok (.invokevirtual 119, 3) := by decide +kernel
theorem dX7_run_95 : decode cX7_run 95 = .ok (.istore_n 1, 1) := by decide +kernel
theorem dX7_run_96 : decode cX7_run 96 = .ok (.goto 11, 3) := by decide +kernel
theorem dX7_run_46 : decode cX7_run 46 = .ok (.aload_n 0, 1) := by decide +kernel
theorem dX7_run_47 : decode cX7_run 47 = .ok (.getfield 37, 3) := by decide +kernel
theorem dX7_run_50 : decode cX7_run 50 = .ok (.aload_n 3, 1) := by decide +kernel
theorem dX7_run_51 : decode cX7_run 51 = .ok (.aload_n 0, 1) := by decide +kernel
theorem dX7_run_52 : decode cX7_run 52 = .ok (.getfield 45, 3) := by decide +kernel
theorem dX7_run_55 : decode cX7_run 55 = .ok (.aload_n 0, 1) := by decide +kernel
theorem dX7_run_56 : decode cX7_run 56 = .ok (.getfield 84, 3) := by decide +kernel
theorem kX6_gather : h_ml mX6_gather 3 := ⟨h_t5 140 rfl rfl, h_t1 14 rfl rfl, ⟨by decide, by decide, by decide +kernel⟩, by decide⟩
theorem lX7_102 : Cond.methodLink RX7 102 mX6_gather.1 ∈ lw_g := h_t5 137 rfl rfl
theorem sX6_gather : Cond.instanceMethod mX6_gather.1 ∈ lw_g ∧ Cond.selects mX6_gather.1.cls mX6_gather.1 mX6_gather.1 ∈ lw_g := ⟨h_t5 138 rfl rfl, h_t5 139 rfl rfl⟩
theorem dX7_run_59 : decode cX7_run 59 = .ok (.invokevirtual 102, 3) := by decide +kernel
theorem dX7_run_62 : decode cX7_run 62 = .ok (.aload_n 0, 1) := by decide +kernel
theorem dX7_run_63 : decode cX7_run 63 = .ok (.iload_n 1, 1) := by decide +kernel
theorem dX7_run_64 : decode cX7_run 64 = .ok (.aload_n 0, 1) := by decide +kernel
theorem dX7_run_65 : decode cX7_run 65 = .ok (.getfield 37, 3) := by decide +kernel
theorem dX7_run_68 : decode cX7_run 68 = .ok (.aload_n 3, 1) := by decide +kernel
theorem kX6_holds : h_ml mX6_holds 1 := ⟨h_t5 194 rfl rfl, h_t1 14 rfl rfl, ⟨by decide, by decide, by decide +kernel⟩, by decide⟩
theorem lX7_108 : Cond.methodLink RX7 108 mX6_holds.1 ∈ lw_g := h_t5 191 rfl rfl
theorem sX6_holds : Cond.instanceMethod mX6_holds.1 ∈ lw_g ∧ Cond.selects mX6_holds.1.cls mX6_holds.1 mX6_holds.1 ∈ lw_g := ⟨h_t5 192 rfl rfl, h_t5 193 rfl rfl⟩
theorem dX7_run_69 : decode cX7_run 69 = .ok (.invokevirtual 108, 3) := by decide +kernel
theorem kX7_behindTest : h_ml mX7_behindTest 2 := ⟨h_t5 238 rfl rfl, h_t1 15 rfl rfl, ⟨by decide, by decide, by decide +kernel⟩, by decide⟩
theorem lX7_112 : Cond.methodLink RX7 112 mX7_behindTest.1 ∈ lw_g := h_t5 235 rfl rfl
theorem sX7_behindTest : Cond.instanceMethod mX7_behindTest.1 ∈ lw_g ∧ Cond.selects mX7_behindTest.1.cls mX7_behindTest.1 mX7_behindTest.1 ∈ lw_g := ⟨h_t5 237 rfl rfl, h_ins 55 rfl⟩
theorem dX7_run_72 : decode cX7_run 72 = .ok (.invokevirtual 112, 3) := by decide +kernel
theorem dX7_run_75 : decode cX7_run 75 = .ok (.istore_n 1, 1) := by decide +kernel
theorem dX7_run_76 : decode cX7_run 76 = .ok (.goto 31, 3) := by decide +kernel
theorem dX7_run_0 : decode cX7_run 0 = .ok (.iconst 1, 1) := by decide +kernel
theorem dX7_run_1 : decode cX7_run 1 = .ok (.istore_n 1, 1) := by decide +kernel
theorem dX7_run_2 : decode cX7_run 2 = .ok (.iconst 0, 1) := by decide +kernel
theorem dX7_run_3 : decode cX7_run 3 = .ok (.istore_n 2, 1) := by decide +kernel
def fb_X7_run_4 (K4 : Int32 → Int32 → uS → Option uS) (x1 : Int32) (x2 : Int32) (s : uS) : Option uS := if (320 : Int32) ≤ x2 then (some s) else (if (s.I 6 2) ≤ x1 then (some s) else (if (s.I 1070 17) = 0 then ((pgt 28 s 13 x1).bind fun j4 => if uSo j4 3 then ((fn_X3_isSimpleTest j4 s).bind fun v7 => if v7 = true then ((fn_X6_gather j4 (s.I 1070 12) (s.I 1070 13) s).bind fun s15 => (fn_X6_holds j4 s15).bind fun r17 => (fn_X7_behindTest x1 r17.2 r17.1).bind fun v19 => K4 v19 (x2 + 1) r17.1) else (if (s.I j4 0) = 24 then ((fn_X7_behindElses (x1 + 1) s).bind fun v13 => K4 v13 (x2 + 1) s) else ((fn_X7_perform j4 s).bind fun s11 => K4 (x1 + 1) (x2 + 1) s11))) else none) else (some s)))
set_option maxRecDepth 100000 in
set_option maxHeartbeats 4000000 in
theorem xb_X7_run_4 {l : Launch} {D : va_G} {A : Nat → ClassId} {B : Nat} {Z : State → Heap → Prop} {vF : Value} (uk : uK B Z vF) (un : uX A B Z) {K4 : Int32 → Int32 → uS → Option uS} (hK4 : ∀ (x1 : Int32) (x2 : Int32)  (s : uS) (r : uS), K4 x1 x2 s = some r → GU l D A B Z mX7_run 8 (r, none) s 4 [(0, .ref (B + 1070)), (1, .int x1), (2, .int x2)] []) {x1 : Int32} {x2 : Int32} {s : uS} {r : uS}  (h : fb_X7_run_4 K4 x1 x2 s = some r) : GU l D A B Z mX7_run 8 (r, none) s 4 [(0, .ref (B + 1070)), (1, .int x1), (2, .int x2)] [] := by
  unfold fb_X7_run_4 at h
  refine uu_iload_n dX7_run_4 rfl (List.mem_of_getElem? (i := 2) rfl) ?_
  refine uu_sipush (v := 320) dX7_run_5 (by decide) ?_
  refine uu_icmp_ge (tgt := 113) dX7_run_8 (by decide) (fun c1 => ?_) (fun c1 => ?_)
  · replace h := uu_pos c1 h
    have hr := Option.some.inj h
    subst hr
    exact uu_vret rfl dX7_run_113
  · replace h := uu_neg c1 h
    refine uu_iload_n dX7_run_11 rfl (List.mem_of_getElem? (i := 1) rfl) ?_
    refine uu_aload_n dX7_run_12 rfl (List.mem_of_getElem? (i := 0) rfl) ?_
    refine uu_geta (ci := 7) (N := 20) fX7_33 (by decide) so_1070.is (by decide) (c := 6) (by decide) dX7_run_13 ?_
    refine uu_geti (ci := 4) (N := 9) fX7_89 (by decide) so_6.is (by decide) (by decide) dX7_run_16 ?_
    refine uu_icmp_ge (tgt := 113) dX7_run_19 (by decide) (fun c2 => ?_) (fun c2 => ?_)
    · replace h := uu_pos c2 h
      have hr := Option.some.inj h
      subst hr
      exact uu_vret rfl dX7_run_113
    · replace h := uu_neg c2 h
      refine uu_aload_n dX7_run_22 rfl (List.mem_of_getElem? (i := 0) rfl) ?_
      refine uu_geti (ci := 7) (N := 20) fX7_53 (by decide) so_1070.is (by decide) (by decide) dX7_run_23 ?_
      refine uu_if_ne (tgt := 113) dX7_run_26 (by decide) (fun c3 => ?_) (fun c3 => ?_)
      · replace h := uu_neg c3 h
        have hr := Option.some.inj h
        subst hr
        exact uu_vret rfl dX7_run_113
      · replace h := uu_pos c3 h
        refine uu_aload_n dX7_run_29 rfl (List.mem_of_getElem? (i := 0) rfl) ?_
        refine uu_geta (ci := 7) (N := 20) fX7_33 (by decide) so_1070.is (by decide) (c := 6) (by decide) dX7_run_30 ?_
        refine uu_geta (ci := 4) (N := 9) fX7_92 (by decide) so_6.is (by decide) (c := 13) (by decide) dX7_run_33 ?_
        refine uu_iload_n dX7_run_36 rfl (List.mem_of_getElem? (i := 1) rfl) ?_
        obtain ⟨j4, e5, h⟩ := uu_ob h
        refine uu_aald (t := 28) rfl (by decide) e5 dX7_run_37 ?_
        obtain ⟨g6, h⟩ := uu_grd h
        refine uu_astore_n dX7_run_38 rfl (by decide) rfl ?_
        refine uu_aload_n dX7_run_39 rfl (List.mem_of_getElem? (i := 0) rfl) ?_
        obtain ⟨v7, e8, h⟩ := uu_ob h
        refine uu_cv (d1 := 0) (k := j4) (ci := 3) (T := TX3) (N := 15) (As := []) (st := []) (st' := [.int (bI v7)]) (xc_X3_isSimpleTest uk g6 e8) g6.is (by decide) rfl kX3_isSimpleTest lX7_96 sX3_isSimpleTest (by decide) (Nat.le_of_ble_eq_true rfl) dX7_run_40 rfl ?_
        refine uu_ifb_eq (tgt := 79) dX7_run_43 (by decide) (fun c9 => ?_) (fun c9 => ?_)
        · replace h := uu_neg c9 h
          refine uu_aload_n dX7_run_79 rfl (List.mem_of_getElem? (i := 0) rfl) ?_
          refine uu_geti (ci := 3) (N := 15) fX7_116 (by decide) g6.is (by decide) (by decide) dX7_run_80 ?_
          refine uu_bipush (v := 24) dX7_run_83 (by decide) ?_
          refine uu_icmp_ne (tgt := 99) dX7_run_85 (by decide) (fun c10 => ?_) (fun c10 => ?_)
          · replace h := uu_neg c10 h
            refine uu_aload_n dX7_run_99 rfl (List.mem_of_getElem? (i := 1) rfl) ?_
            refine uu_aload_n dX7_run_100 rfl (List.mem_of_getElem? (i := 0) rfl) ?_
            obtain ⟨s11, e12, h⟩ := uu_ob h
            refine uu_cv (d1 := 6) (k := 1070) (ci := 7) (T := TX7) (N := 20) (As := [.ref (B + j4)]) (st := []) (st' := []) (xc_X7_perform uk g6 e12) so_1070.is (by decide) rfl kX7_perform lX7_123 sX7_perform (by decide) (Nat.le_of_ble_eq_true rfl) dX7_run_101 rfl ?_
            refine uu_iinc (v := x1 + 1) dX7_run_104 (k := 2) rfl rfl (by decide) rfl ?_
            refine uu_iinc (v := x2 + 1) dX7_run_107 (k := 3) rfl rfl (by decide) rfl ?_
            refine uu_goto (tgt := 4) dX7_run_110 (by decide) ?_
            refine uu_lv [3, 1, 0] (lv' := [(0, .ref (B + 1070)), (1, .int (x1 + 1)), (2, .int (x2 + 1))]) rfl ?_
            exact hK4 (x1 + 1) (x2 + 1) _ _ h
          · replace h := uu_pos c10 h
            refine uu_aload_n dX7_run_88 rfl (List.mem_of_getElem? (i := 1) rfl) ?_
            refine uu_iload_n dX7_run_89 rfl (List.mem_of_getElem? (i := 2) rfl) ?_
            refine uu_iconst (v := 1) dX7_run_90 (by decide) ?_
            refine uu_iadd dX7_run_91 ?_
            obtain ⟨v13, e14, h⟩ := uu_ob h
            refine uu_cv (d1 := 1) (k := 1070) (ci := 7) (T := TX7) (N := 20) (As := [.int (x1 + 1)]) (st := []) (st' := [.int v13]) (xc_X7_behindElses uk  e14) so_1070.is (by decide) rfl kX7_behindElses lX7_119 sX7_behindElses (by decide) (Nat.le_of_ble_eq_true rfl) dX7_run_92 rfl ?_
            refine uu_istore_n dX7_run_95 rfl (by decide) rfl ?_
            refine uu_goto (tgt := 107) dX7_run_96 (by decide) ?_
            refine uu_iinc (v := x2 + 1) dX7_run_107 (k := 3) rfl rfl (by decide) rfl ?_
            refine uu_goto (tgt := 4) dX7_run_110 (by decide) ?_
            refine uu_lv [3, 1, 0] (lv' := [(0, .ref (B + 1070)), (1, .int v13), (2, .int (x2 + 1))]) rfl ?_
            exact hK4 v13 (x2 + 1) _ _ h
        · replace h := uu_pos c9 h
          refine uu_aload_n dX7_run_46 rfl (List.mem_of_getElem? (i := 1) rfl) ?_
          refine uu_geta (ci := 7) (N := 20) fX7_37 (by decide) so_1070.is (by decide) (c := 1053) (by decide) dX7_run_47 ?_
          refine uu_aload_n dX7_run_50 rfl (List.mem_of_getElem? (i := 0) rfl) ?_
          refine uu_aload_n dX7_run_51 rfl (List.mem_of_getElem? (i := 1) rfl) ?_
          refine uu_geti (ci := 7) (N := 20) fX7_45 (by decide) so_1070.is (by decide) (by decide) dX7_run_52 ?_
          refine uu_aload_n dX7_run_55 rfl (List.mem_of_getElem? (i := 1) rfl) ?_
          refine uu_geti (ci := 7) (N := 20) fX7_84 (by decide) so_1070.is (by decide) (by decide) dX7_run_56 ?_
          obtain ⟨s15, e16, h⟩ := uu_ob h
          refine uu_cv (d1 := 7) (k := 1053) (ci := 6) (T := TX6) (N := 6) (As := [.ref (B + j4), .int (s.I 1070 12), .int (s.I 1070 13)]) (st := []) (st' := []) (xc_X6_gather uk un g6 e16) so_1053.is (by decide) rfl kX6_gather lX7_102 sX6_gather (by decide) (Nat.le_of_ble_eq_true rfl) dX7_run_59 rfl ?_
          refine uu_aload_n dX7_run_62 rfl (List.mem_of_getElem? (i := 1) rfl) ?_
          refine uu_iload_n dX7_run_63 rfl (List.mem_of_getElem? (i := 2) rfl) ?_
          refine uu_aload_n dX7_run_64 rfl (List.mem_of_getElem? (i := 1) rfl) ?_
          refine uu_geta (ci := 7) (N := 20) fX7_37 (by decide) so_1070.is (by decide) (c := 1053) (by decide) dX7_run_65 ?_
          refine uu_aload_n dX7_run_68 rfl (List.mem_of_getElem? (i := 0) rfl) ?_
          obtain ⟨r17, e18, h⟩ := uu_ob h
          refine uu_cv (d1 := 3) (k := 1053) (ci := 6) (T := TX6) (N := 6) (As := [.ref (B + j4)]) (st := [.int x1, .ref (B + 1070)]) (st' := [.int (bI r17.2), .int x1, .ref (B + 1070)]) (xc_X6_holds uk g6 e18) so_1053.is (by decide) rfl kX6_holds lX7_108 sX6_holds (by decide) (Nat.le_of_ble_eq_true rfl) dX7_run_69 rfl ?_
          obtain ⟨v19, e20, h⟩ := uu_ob h
          refine uu_cv (d1 := 0) (k := 1070) (ci := 7) (T := TX7) (N := 20) (As := [.int x1, .int (bI r17.2)]) (st := []) (st' := [.int v19]) (xc_X7_behindTest uk  e20) so_1070.is (by decide) rfl kX7_behindTest lX7_112 sX7_behindTest (by decide) (Nat.le_of_ble_eq_true rfl) dX7_run_72 rfl ?_
          refine uu_istore_n dX7_run_75 rfl (by decide) rfl ?_
          refine uu_goto (tgt := 107) dX7_run_76 (by decide) ?_
          refine uu_iinc (v := x2 + 1) dX7_run_107 (k := 3) rfl rfl (by decide) rfl ?_
          refine uu_goto (tgt := 4) dX7_run_110 (by decide) ?_
          refine uu_lv [3, 1, 0] (lv' := [(0, .ref (B + 1070)), (1, .int v19), (2, .int (x2 + 1))]) rfl ?_
          exact hK4 v19 (x2 + 1) _ _ h
def fn_X7_run_4  : Nat → Int32 → Int32 → uS → Option uS
  | 0 => fun _ _ _ => none
  | n + 1 => fb_X7_run_4 (fn_X7_run_4  n)
set_option maxRecDepth 100000 in
set_option maxHeartbeats 4000000 in
theorem xn_X7_run_4 {l : Launch} {D : va_G} {A : Nat → ClassId} {B : Nat} {Z : State → Heap → Prop} {vF : Value} (uk : uK B Z vF) (un : uX A B Z)   : ∀ (n : Nat) (x1 : Int32) (x2 : Int32)  (s : uS) (r : uS), fn_X7_run_4  n x1 x2 s = some r → GU l D A B Z mX7_run 8 (r, none) s 4 [(0, .ref (B + 1070)), (1, .int x1), (2, .int x2)] [] := by
  intro n
  induction n with
  | zero => intro x1 x2 s r h
            cases h
  | succ n ih => intro x1 x2 s r h
                 exact xb_X7_run_4 uk un ih  h
def fn_X7_run  (s : uS) : Option uS := fn_X7_run_4 uFu 1 0 s
set_option maxRecDepth 100000 in
set_option maxHeartbeats 4000000 in
theorem xc_X7_run {l : Launch} {D : va_G} {A : Nat → ClassId} {B : Nat} {Z : State → Heap → Prop} {vF : Value} (uk : uK B Z vF) (un : uX A B Z)  {s : uS} {r : uS}  (h : fn_X7_run  s = some r) : CU l D A B Z 8 mX7_run s [.ref (B + 1070)] (r, none) := by
  unfold fn_X7_run at h
  refine cu_of rfl uk.1.1 (Nat.le_of_ble_eq_true rfl) ?_
  show GU _ _ _ _ _ _ _ _ _ 0 [(0, .ref (B + 1070))] []
  refine uu_iconst (v := 1) dX7_run_0 (by decide) ?_
  refine uu_istore_n dX7_run_1 rfl (by decide) rfl ?_
  refine uu_iconst (v := 0) dX7_run_2 (by decide) ?_
  refine uu_istore_n dX7_run_3 rfl (by decide) rfl ?_
  refine uu_lv [2, 1, 0] (lv' := [(0, .ref (B + 1070)), (1, .int 1), (2, .int 0)]) rfl ?_
  exact xn_X7_run_4 uk un  _ _ _ _ _ h
abbrev mX9_putFrom : hM := (yX9_putFrom, cX9_putFrom, 3, none)
theorem dX9_putFrom_0 : decode cX9_putFrom 0 = .ok (.iload_n 2, 1) := by decide +kernel
theorem dX9_putFrom_1 : decode cX9_putFrom 1 = .ok (.ifCond .lt 31, 3) := by decide +kernel
theorem dX9_putFrom_32 : decode cX9_putFrom 32 = .ok (.return_, 1) := by decide +kernel
theorem dX9_putFrom_4 : decode cX9_putFrom 4 = .ok (.iload_n 2, 1) := by decide +kernel
theorem dX9_putFrom_5 : decode cX9_putFrom 5 = .ok (.aload_n 1, 1) := by decide +kernel
theorem dX9_putFrom_6 : decode cX9_putFrom 6 = .ok (.getfield 20, 3) := by decide +kernel
theorem dX9_putFrom_9 : decode cX9_putFrom 9 = .ok (.if_icmp .ge 23, 3) := by decide +kernel
theorem dX9_putFrom_12 : decode cX9_putFrom 12 = .ok (.aload_n 0, 1) := by decide +kernel
theorem dX9_putFrom_13 : decode cX9_putFrom 13 = .ok (.aload_n 1, 1) := by decide +kernel
theorem dX9_putFrom_14 : decode cX9_putFrom 14 = .ok (.getfield 9, 3) := by decide +kernel
theorem dX9_putFrom_17 : decode cX9_putFrom 17 = .ok (.aload_n 1, 1) := by decide +kernel
theorem dX9_putFrom_18 : decode cX9_putFrom 18 = .ok (.getfield 13, 3) := by decide +kernel
theorem dX9_putFrom_21 : decode cX9_putFrom 21 = .ok (.iload_n 2, 1) := by decide +kernel
theorem dX9_putFrom_22 : decode cX9_putFrom 22 = .ok (.iaload, 1) := by decide +kernel
theorem dX9_putFrom_23 : decode cX9_putFrom 23 = .ok (.aload_n 1, 1) := by decide +kernel
theorem dX9_putFrom_24 : decode cX9_putFrom 24 = .ok (.getfield 17, 3) := by decide +kernel
theorem dX9_putFrom_27 : decode cX9_putFrom 27 = .ok (.iload_n 2, 1) := by decide +kernel
theorem dX9_putFrom_28 : decode cX9_putFrom 28 = .ok (.iaload, 1) := by decide +kernel
theorem dX9_putFrom_29 : decode cX9_putFrom 29 = .ok (.invokevirtual 56, 3) := by decide +kernel
def fn_X9_putFrom (k0 : Nat) (k1 : Nat) (x2 : Int32) (s : uS) : Option uS := if x2 < 0 then (some s) else (if (s.I k1 3) ≤ x2 then (some s) else ((iget 20 s (k1 + 2) x2).bind fun v3 => (iget 20 s (k1 + 3) x2).bind fun v5 => (fn_X9_putRange k0 (k1 + 1) v3 v5 s).bind fun s7 => some s7))
set_option maxRecDepth 100000 in
set_option maxHeartbeats 4000000 in
theorem xc_X9_putFrom {l : Launch} {D : va_G} {A : Nat → ClassId} {B : Nat} {Z : State → Heap → Prop} {vF : Value} (uk : uK B Z vF) (un : uX A B Z) {k0 : Nat} {k1 : Nat} {x2 : Int32} {s : uS} {r : uS} (hk0 : uSo k0 9) (hk1 : uSo k1 9) (h : fn_X9_putFrom k0 k1 x2 s = some r) : CU l D A B Z 2 mX9_putFrom s [.ref (B + k0), .ref (B + k1), .int x2] (r, none) := by
  unfold fn_X9_putFrom at h
  refine cu_of rfl uk.1.1 (Nat.le_of_ble_eq_true rfl) ?_
  show GU _ _ _ _ _ _ _ _ _ 0 [(0, .ref (B + k0)), (1, .ref (B + k1)), (2, .int x2)] []
  refine uu_iload_n dX9_putFrom_0 rfl (List.mem_of_getElem? (i := 2) rfl) ?_
  refine uu_if_lt (tgt := 32) dX9_putFrom_1 (by decide) (fun c1 => ?_) (fun c1 => ?_)
  · replace h := uu_pos c1 h
    have hr := Option.some.inj h
    subst hr
    exact uu_vret rfl dX9_putFrom_32
  · replace h := uu_neg c1 h
    refine uu_iload_n dX9_putFrom_4 rfl (List.mem_of_getElem? (i := 2) rfl) ?_
    refine uu_aload_n dX9_putFrom_5 rfl (List.mem_of_getElem? (i := 1) rfl) ?_
    refine uu_geti (ci := 9) (N := 6) fX9_20 (by decide) hk1.is (by decide) (by decide) dX9_putFrom_6 ?_
    refine uu_icmp_ge (tgt := 32) dX9_putFrom_9 (by decide) (fun c2 => ?_) (fun c2 => ?_)
    · replace h := uu_pos c2 h
      have hr := Option.some.inj h
      subst hr
      exact uu_vret rfl dX9_putFrom_32
    · replace h := uu_neg c2 h
      refine uu_aload_n dX9_putFrom_12 rfl (List.mem_of_getElem? (i := 0) rfl) ?_
      refine uu_aload_n dX9_putFrom_13 rfl (List.mem_of_getElem? (i := 1) rfl) ?_
      refine uu_getc (ci := 9) (N := 6) fX9_9 (by decide) hk1.is (by decide) (c := 1) (by decide) (k2 := k1 + 1) rfl dX9_putFrom_14 ?_
      refine uu_aload_n dX9_putFrom_17 rfl (List.mem_of_getElem? (i := 1) rfl) ?_
      refine uu_getc (ci := 9) (N := 6) fX9_13 (by decide) hk1.is (by decide) (c := 2) (by decide) (k2 := k1 + 2) rfl dX9_putFrom_18 ?_
      refine uu_iload_n dX9_putFrom_21 rfl (List.mem_of_getElem? (i := 2) rfl) ?_
      obtain ⟨v3, e4, h⟩ := uu_ob h
      refine uu_iald e4 dX9_putFrom_22 ?_
      refine uu_aload_n dX9_putFrom_23 rfl (List.mem_of_getElem? (i := 1) rfl) ?_
      refine uu_getc (ci := 9) (N := 6) fX9_17 (by decide) hk1.is (by decide) (c := 3) (by decide) (k2 := k1 + 3) rfl dX9_putFrom_24 ?_
      refine uu_iload_n dX9_putFrom_27 rfl (List.mem_of_getElem? (i := 2) rfl) ?_
      obtain ⟨v5, e6, h⟩ := uu_ob h
      refine uu_iald e6 dX9_putFrom_28 ?_
      obtain ⟨s7, e8, h⟩ := uu_ob h
      refine uu_cv (d1 := 1) (k := k0) (ci := 9) (T := TX9) (N := 6) (As := [.ref (B + (k1 + 1)), .int v3, .int v5]) (st := []) (st' := []) (xc_X9_putRange uk un hk0 e8) hk0.is (by decide) rfl kX9_putRange lX9_56 sX9_putRange (by decide) (Nat.le_of_ble_eq_true rfl) dX9_putFrom_29 rfl ?_
      have hr := Option.some.inj h
      subst hr
      exact uu_vret rfl dX9_putFrom_32
abbrev mX7_writeAnswer : hM := (yX7_writeAnswer, cX7_writeAnswer, 3, none)
theorem dX7_writeAnswer_144 : decode cX7_writeAnswer 144 = .ok (.aload_n 0, 1) := by decide +kernel
theorem dX7_writeAnswer_145 : decode cX7_writeAnswer 145 = .ok (.getfield 29, 3) := by decide +kernel
theorem dX7_writeAnswer_148 : decode cX7_writeAnswer 148 = .ok (.ldc_w 286, 3) := by decide +kernel
theorem lX7_263 : Cond.methodLink RX7 263 mX9_putText.1 ∈ lw_g := h_t6 59 rfl rfl
theorem dX7_writeAnswer_151 : decode cX7_writeAnswer 151 = .ok (.invokevirtual 263, 3) := by decide +kernel
theorem dX7_writeAnswer_154 : decode cX7_writeAnswer 154 = .ok (.aload_n 0, 1) := by decide +kernel
theorem dX7_writeAnswer_155 : decode cX7_writeAnswer 155 = .ok (.getfield 29, 3) := by decide +kernel
theorem dX7_writeAnswer_158 : decode cX7_writeAnswer 158 = .ok (.aload_n 2, 1) := by decide +kernel
theorem dX7_writeAnswer_159 : decode cX7_writeAnswer 159 = .ok (.aload_n 1, 1) := by decide +kernel
theorem dX7_writeAnswer_160 : decode cX7_writeAnswer 160 = .ok (.getfield 149, 3) := by decide +kernel
theorem dX7_writeAnswer_163 : decode cX7_writeAnswer 163 = .ok (.iconst 5, 1) := by decide +kernel
theorem dX7_writeAnswer_164 : decode cX7_writeAnswer 164 = .ok (.iaload, 1) := by decide +kernel
theorem kX9_putFrom : h_ml mX9_putFrom 2 := ⟨h_t6 63 rfl rfl, h_t1 4 rfl rfl, ⟨by decide, by decide, by decide +kernel⟩, by decide⟩
theorem lX7_267 : Cond.methodLink RX7 267 mX9_putFrom.1 ∈ lw_g := h_t6 60 rfl rfl
theorem sX9_putFrom : Cond.instanceMethod mX9_putFrom.1 ∈ lw_g ∧ Cond.selects mX9_putFrom.1.cls mX9_putFrom.1 mX9_putFrom.1 ∈ lw_g := ⟨h_t6 61 rfl rfl, h_t6 62 rfl rfl⟩
theorem dX7_writeAnswer_165 : decode cX7_writeAnswer 165 = .ok (.invokevirtual 267, 3) := by decide +kernel
theorem dX7_writeAnswer_168 : decode cX7_writeAnswer 168 = .ok (.aload_n 0, 1) := by decide +kernel
theorem dX7_writeAnswer_169 : decode cX7_writeAnswer 169 = .ok (.getfield 29, 3) := by decide +kernel
theorem dX7_writeAnswer_172 : decode cX7_writeAnswer 172 = .ok (.ldc_w 288, 3) := by decide +kernel
theorem dX7_writeAnswer_175 : decode cX7_writeAnswer 175 = .ok (.invokevirtual 263, 3) := by decide +kernel
theorem dX7_writeAnswer_178 : decode cX7_writeAnswer 178 = .ok (.return_, 1) := by decide +kernel
theorem dX7_writeAnswer_0 : decode cX7_writeAnswer 0 = .ok (.aload_n 0, 1) := by decide +kernel
theorem dX7_writeAnswer_1 : decode cX7_writeAnswer 1 = .ok (.getfield 33, 3) := by decide +kernel
theorem dX7_writeAnswer_4 : decode cX7_writeAnswer 4 = .ok (.getfield 178, 3) := by decide +kernel
theorem dX7_writeAnswer_7 : decode cX7_writeAnswer 7 = .ok (.getfield 182, 3) := by decide +kernel
theorem dX7_writeAnswer_10 : decode cX7_writeAnswer 10 = .ok (.astore_n 2, 1) := by decide +kernel
theorem dX7_writeAnswer_11 : decode cX7_writeAnswer 11 = .ok (.aload_n 0, 1) := by decide +kernel
theorem dX7_writeAnswer_12 : decode cX7_writeAnswer 12 = .ok (.iconst 1, 1) := by decide +kernel
theorem dX7_writeAnswer_13 : decode cX7_writeAnswer 13 = .ok (.putfield 75, 3) := by decide +kernel
theorem dX7_writeAnswer_16 : decode cX7_writeAnswer 16 = .ok (.aload_n 0, 1) := by decide +kernel
theorem dX7_writeAnswer_17 : decode cX7_writeAnswer 17 = .ok (.getfield 29, 3) := by decide +kernel
theorem lX7_258 : Cond.methodLink RX7 258 mX9_clear.1 ∈ lw_g := h_t6 57 rfl rfl
theorem dX7_writeAnswer_20 : decode cX7_writeAnswer 20 = .ok (.invokevirtual 258, 3) := by decide +kernel
theorem dX7_writeAnswer_23 : decode cX7_writeAnswer 23 = .ok (.aload_n 0, 1) := by decide +kernel
theorem dX7_writeAnswer_24 : decode cX7_writeAnswer 24 = .ok (.getfield 29, 3) := by decide +kernel
theorem dX7_writeAnswer_27 : decode cX7_writeAnswer 27 = .ok (.ldc_w 261, 3) := by decide +kernel
theorem dX7_writeAnswer_30 : decode cX7_writeAnswer 30 = .ok (.invokevirtual 263, 3) := by decide +kernel
theorem dX7_writeAnswer_33 : decode cX7_writeAnswer 33 = .ok (.aload_n 0, 1) := by decide +kernel
theorem dX7_writeAnswer_34 : decode cX7_writeAnswer 34 = .ok (.getfield 29, 3) := by decide +kernel
theorem dX7_writeAnswer_37 : decode cX7_writeAnswer 37 = .ok (.aload_n 0, 1) := by decide +kernel
theorem dX7_writeAnswer_38 : decode cX7_writeAnswer 38 = .ok (.getfield 37, 3) := by decide +kernel
theorem fX7_213 : h_fl RX7 213 6 5 RX6 TX6 6 := ⟨rfl, by decide, inX6, h_t2 226 rfl rfl⟩
theorem dX7_writeAnswer_41 : decode cX7_writeAnswer 41 = .ok (.getfield 213, 3) := by decide +kernel
theorem fX7_217 : h_fl RX7 217 0 0 RX0 TX0 12 := ⟨rfl, by decide, inX0, h_t2 166 rfl rfl⟩
theorem dX7_writeAnswer_44 : decode cX7_writeAnswer 44 = .ok (.getfield 217, 3) := by decide +kernel
theorem dX7_writeAnswer_47 : decode cX7_writeAnswer 47 = .ok (.iconst 0, 1) := by decide +kernel
theorem dX7_writeAnswer_48 : decode cX7_writeAnswer 48 = .ok (.invokevirtual 267, 3) := by decide +kernel
theorem dX7_writeAnswer_51 : decode cX7_writeAnswer 51 = .ok (.aload_n 0, 1) := by decide +kernel
theorem dX7_writeAnswer_52 : decode cX7_writeAnswer 52 = .ok (.getfield 29, 3) := by decide +kernel
theorem dX7_writeAnswer_55 : decode cX7_writeAnswer 55 = .ok (.ldc_w 271, 3) := by decide +kernel
theorem dX7_writeAnswer_58 : decode cX7_writeAnswer 58 = .ok (.invokevirtual 263, 3) := by decide +kernel
theorem dX7_writeAnswer_61 : decode cX7_writeAnswer 61 = .ok (.aload_n 1, 1) := by decide +kernel
theorem dX7_writeAnswer_62 : decode cX7_writeAnswer 62 = .ok (.getfield 116, 3) := by decide +kernel
theorem dX7_writeAnswer_65 : decode cX7_writeAnswer 65 = .ok (.bipush 6, 2) := by decide +kernel
theorem dX7_writeAnswer_67 : decode cX7_writeAnswer 67 = .ok (.if_icmp .ne 16, 3) := by decide +kernel
theorem dX7_writeAnswer_83 : decode cX7_writeAnswer 83 = .ok (.aload_n 1, 1) := by decide +kernel
theorem dX7_writeAnswer_84 : decode cX7_writeAnswer 84 = .ok (.bipush 64, 2) := by decide +kernel
theorem dX7_writeAnswer_86 : decode cX7_writeAnswer 86 = .ok (.invokevirtual 168, 3) := by decide +kernel
theorem dX7_writeAnswer_89 : decode cX7_writeAnswer 89 = .ok (.ifCond .eq 21, 3) := by decide +kernel
theorem dX7_writeAnswer_110 : decode cX7_writeAnswer 110 = .ok (.aload_n 0, 1) := by decide +kernel
theorem dX7_writeAnswer_111 : decode cX7_writeAnswer 111 = .ok (.getfield 29, 3) := by decide +kernel
theorem dX7_writeAnswer_114 : decode cX7_writeAnswer 114 = .ok (.ldc_w 275, 3) := by decide +kernel
theorem dX7_writeAnswer_117 : decode cX7_writeAnswer 117 = .ok (.invokevirtual 263, 3) := by decide +kernel
theorem dX7_writeAnswer_120 : decode cX7_writeAnswer 120 = .ok (.aload_n 0, 1) := by decide +kernel
theorem dX7_writeAnswer_121 : decode cX7_writeAnswer 121 = .ok (.getfield 29, 3) := by decide +kernel
theorem dX7_writeAnswer_124 : decode cX7_writeAnswer 124 = .ok (.aload_n 0, 1) := by decide +kernel
theorem dX7_writeAnswer_125 : decode cX7_writeAnswer 125 = .ok (.getfield 37, 3) := by decide +kernel
theorem fX7_277 : h_fl RX7 277 6 1 RX6 TX6 6 := ⟨rfl, by decide, inX6, h_t2 221 rfl rfl⟩
theorem dX7_writeAnswer_128 : decode cX7_writeAnswer 128 = .ok (.getfield 277, 3) := by decide +kernel
theorem dX7_writeAnswer_131 : decode cX7_writeAnswer 131 = .ok (.aload_n 0, 1) := by decide +kernel
theorem dX7_writeAnswer_132 : decode cX7_writeAnswer 132 = .ok (.getfield 37, 3) := by decide +kernel
theorem dX7_writeAnswer_135 : decode cX7_writeAnswer 135 = .ok (.ldc_w 280, 3) := by decide +kernel
theorem lX7_282 : Cond.methodLink RX7 282 mX6_fieldNamed.1 ∈ lw_g := h_t6 68 rfl rfl
theorem dX7_writeAnswer_138 : decode cX7_writeAnswer 138 = .ok (.invokevirtual 282, 3) := by decide +kernel
theorem dX7_writeAnswer_141 : decode cX7_writeAnswer 141 = .ok (.invokevirtual 267, 3) := by decide +kernel
theorem dX7_writeAnswer_92 : decode cX7_writeAnswer 92 = .ok (.aload_n 0, 1) := by decide +kernel
theorem dX7_writeAnswer_93 : decode cX7_writeAnswer 93 = .ok (.getfield 29, 3) := by decide +kernel
theorem dX7_writeAnswer_96 : decode cX7_writeAnswer 96 = .ok (.aload_n 2, 1) := by decide +kernel
theorem dX7_writeAnswer_97 : decode cX7_writeAnswer 97 = .ok (.aload_n 1, 1) := by decide +kernel
theorem dX7_writeAnswer_98 : decode cX7_writeAnswer 98 = .ok (.getfield 149, 3) := by decide +kernel
theorem dX7_writeAnswer_101 : decode cX7_writeAnswer 101 = .ok (.bipush 6, 2) := by decide +kernel
theorem dX7_writeAnswer_103 : decode cX7_writeAnswer 103 = .ok (.iaload, 1) := by decide +kernel
theorem dX7_writeAnswer_104 : decode cX7_writeAnswer 104 = .ok (.invokevirtual 267, 3) := by decide +kernel
theorem dX7_writeAnswer_107 : decode cX7_writeAnswer 107 = .ok (.goto 37, 3) := by decide +kernel
theorem dX7_writeAnswer_70 : decode cX7_writeAnswer 70 = .ok (.aload_n 0, 1) := by decide +kernel
theorem dX7_writeAnswer_71 : decode cX7_writeAnswer 71 = .ok (.getfield 29, 3) := by decide +kernel
theorem dX7_writeAnswer_74 : decode cX7_writeAnswer 74 = .ok (.ldc_w 273, 3) := by decide +kernel
theorem dX7_writeAnswer_77 : decode cX7_writeAnswer 77 = .ok (.invokevirtual 263, 3) := by decide +kernel
theorem dX7_writeAnswer_80 : decode cX7_writeAnswer 80 = .ok (.goto 64, 3) := by decide +kernel
def fb_X7_writeAnswer_144  (k1 : Nat) (s : uS) : Option uS := (fn_X9_putText 1075 kW_65 s).bind fun s2 => (iget 20 s2 (k1 + 1) 5).bind fun v4 => (fn_X9_putFrom 1075 8 v4 s2).bind fun s6 => (fn_X9_putText 1075 kW_66 s6).bind fun s9 => some s9
set_option maxRecDepth 100000 in
set_option maxHeartbeats 4000000 in
theorem xb_X7_writeAnswer_144 {l : Launch} {D : va_G} {A : Nat → ClassId} {B : Nat} {Z : State → Heap → Prop} {vF : Value} (uk : uK B Z vF) (un : uX A B Z)   {k1 : Nat} {s : uS} {r : uS} (hk1 : uSo k1 3) (h : fb_X7_writeAnswer_144  k1 s = some r) : GU l D A B Z mX7_writeAnswer 6 (r, none) s 144 [(0, .ref (B + 1070)), (1, .ref (B + k1)), (2, .ref (B + 8))] [] := by
  unfold fb_X7_writeAnswer_144 at h
  refine uu_aload_n dX7_writeAnswer_144 rfl (List.mem_of_getElem? (i := 0) rfl) ?_
  refine uu_geta (ci := 7) (N := 20) fX7_29 (by decide) so_1070.is (by decide) (c := 1075) (by decide) dX7_writeAnswer_145 ?_
  obtain ⟨cq1, cp1, cv1, cw1⟩ := uk.2.1 65 _ rfl
  refine uu_ldcwS cv1 dX7_writeAnswer_148 ?_
  obtain ⟨s2, e3, h⟩ := uu_ob h
  refine uu_cv (d1 := 4) (k := 1075) (ci := 9) (T := TX9) (N := 6) (As := [.ref cq1]) (st := []) (st' := []) (xc_X9_putText uk so_1075 cw1 e3) so_1075.is (by decide) rfl kX9_putText lX7_263 sX9_putText (by decide) (Nat.le_of_ble_eq_true rfl) dX7_writeAnswer_151 rfl ?_
  refine uu_aload_n dX7_writeAnswer_154 rfl (List.mem_of_getElem? (i := 0) rfl) ?_
  refine uu_geta (ci := 7) (N := 20) fX7_29 (by decide) so_1070.is (by decide) (c := 1075) (by decide) dX7_writeAnswer_155 ?_
  refine uu_aload_n dX7_writeAnswer_158 rfl (List.mem_of_getElem? (i := 2) rfl) ?_
  refine uu_aload_n dX7_writeAnswer_159 rfl (List.mem_of_getElem? (i := 1) rfl) ?_
  refine uu_getc (ci := 3) (N := 15) fX7_149 (by decide) hk1.is (by decide) (c := 1) (by decide) (k2 := k1 + 1) rfl dX7_writeAnswer_160 ?_
  refine uu_iconst (v := 5) dX7_writeAnswer_163 (by decide) ?_
  obtain ⟨v4, e5, h⟩ := uu_ob h
  refine uu_iald e5 dX7_writeAnswer_164 ?_
  obtain ⟨s6, e7, h⟩ := uu_ob h
  refine uu_cv (d1 := 2) (k := 1075) (ci := 9) (T := TX9) (N := 6) (As := [.ref (B + 8), .int v4]) (st := []) (st' := []) (xc_X9_putFrom uk un so_1075 so_8 e7) so_1075.is (by decide) rfl kX9_putFrom lX7_267 sX9_putFrom (by decide) (Nat.le_of_ble_eq_true rfl) dX7_writeAnswer_165 rfl ?_
  refine uu_aload_n dX7_writeAnswer_168 rfl (List.mem_of_getElem? (i := 0) rfl) ?_
  refine uu_geta (ci := 7) (N := 20) fX7_29 (by decide) so_1070.is (by decide) (c := 1075) (by decide) dX7_writeAnswer_169 ?_
  obtain ⟨cq8, cp8, cv8, cw8⟩ := uk.2.1 66 _ rfl
  refine uu_ldcwS cv8 dX7_writeAnswer_172 ?_
  obtain ⟨s9, e10, h⟩ := uu_ob h
  refine uu_cv (d1 := 4) (k := 1075) (ci := 9) (T := TX9) (N := 6) (As := [.ref cq8]) (st := []) (st' := []) (xc_X9_putText uk so_1075 cw8 e10) so_1075.is (by decide) rfl kX9_putText lX7_263 sX9_putText (by decide) (Nat.le_of_ble_eq_true rfl) dX7_writeAnswer_175 rfl ?_
  have hr := Option.some.inj h
  subst hr
  exact uu_vret rfl dX7_writeAnswer_178
def fn_X7_writeAnswer (k1 : Nat) (s : uS) : Option uS := (fn_X9_clear 1075 (wI s 1070 8 1)).bind fun s1 => (fn_X9_putText 1075 kW_60 s1).bind fun s4 => (fn_X9_putFrom 1075 1043 0 s4).bind fun s6 => (fn_X9_putText 1075 kW_61 s6).bind fun s9 => if (s9.I k1 0) = 6 then ((fn_X9_putText 1075 kW_62 s9).bind fun s28 => fb_X7_writeAnswer_144 k1 s28) else ((fn_X3_has k1 64 s9).bind fun v12 => if v12 = true then ((iget 20 s9 (k1 + 1) 6).bind fun v23 => (fn_X9_putFrom 1075 8 v23 s9).bind fun s25 => fb_X7_writeAnswer_144 k1 s25) else ((fn_X9_putText 1075 kW_63 s9).bind fun s16 => (fn_X6_fieldNamed kW_64 s16).bind fun v19 => (fn_X9_putFrom 1075 1058 v19 s16).bind fun s21 => fb_X7_writeAnswer_144 k1 s21))
set_option maxRecDepth 100000 in
set_option maxHeartbeats 4000000 in
theorem xc_X7_writeAnswer {l : Launch} {D : va_G} {A : Nat → ClassId} {B : Nat} {Z : State → Heap → Prop} {vF : Value} (uk : uK B Z vF) (un : uX A B Z) {k1 : Nat} {s : uS} {r : uS} (hk1 : uSo k1 3) (h : fn_X7_writeAnswer k1 s = some r) : CU l D A B Z 6 mX7_writeAnswer s [.ref (B + 1070), .ref (B + k1)] (r, none) := by
  unfold fn_X7_writeAnswer at h
  refine cu_of rfl uk.1.1 (Nat.le_of_ble_eq_true rfl) ?_
  show GU _ _ _ _ _ _ _ _ _ 0 [(0, .ref (B + 1070)), (1, .ref (B + k1))] []
  refine uu_aload_n dX7_writeAnswer_0 rfl (List.mem_of_getElem? (i := 0) rfl) ?_
  refine uu_geta (ci := 7) (N := 20) fX7_33 (by decide) so_1070.is (by decide) (c := 6) (by decide) dX7_writeAnswer_1 ?_
  refine uu_geta (ci := 4) (N := 9) fX7_178 (by decide) so_6.is (by decide) (c := 7) (by decide) dX7_writeAnswer_4 ?_
  refine uu_geta (ci := 2) (N := 9) fX7_182 (by decide) so_7.is (by decide) (c := 8) (by decide) dX7_writeAnswer_7 ?_
  refine uu_astore_n dX7_writeAnswer_10 rfl (by decide) rfl ?_
  refine uu_aload_n dX7_writeAnswer_11 rfl (List.mem_of_getElem? (i := 1) rfl) ?_
  refine uu_iconst (v := 1) dX7_writeAnswer_12 (by decide) ?_
  refine uu_puti (ft := .boolean) (ci := 7) (N := 20) fX7_75 ptX7 (Or.inl rfl) (by decide) so_1070.is (by decide) (by decide) (by decide +kernel) rfl rfl dX7_writeAnswer_13 ?_
  refine uu_aload_n dX7_writeAnswer_16 rfl (List.mem_of_getElem? (i := 1) rfl) ?_
  refine uu_geta (ci := 7) (N := 20) fX7_29 (by decide) so_1070.is (by decide) (c := 1075) (by decide) dX7_writeAnswer_17 ?_
  obtain ⟨s1, e2, h⟩ := uu_ob h
  refine uu_cv (d1 := 0) (k := 1075) (ci := 9) (T := TX9) (N := 6) (As := []) (st := []) (st' := []) (xc_X9_clear uk so_1075 e2) so_1075.is (by decide) rfl kX9_clear lX7_258 sX9_clear (by decide) (Nat.le_of_ble_eq_true rfl) dX7_writeAnswer_20 rfl ?_
  refine uu_aload_n dX7_writeAnswer_23 rfl (List.mem_of_getElem? (i := 1) rfl) ?_
  refine uu_geta (ci := 7) (N := 20) fX7_29 (by decide) so_1070.is (by decide) (c := 1075) (by decide) dX7_writeAnswer_24 ?_
  obtain ⟨cq3, cp3, cv3, cw3⟩ := uk.2.1 60 _ rfl
  refine uu_ldcwS cv3 dX7_writeAnswer_27 ?_
  obtain ⟨s4, e5, h⟩ := uu_ob h
  refine uu_cv (d1 := 4) (k := 1075) (ci := 9) (T := TX9) (N := 6) (As := [.ref cq3]) (st := []) (st' := []) (xc_X9_putText uk so_1075 cw3 e5) so_1075.is (by decide) rfl kX9_putText lX7_263 sX9_putText (by decide) (Nat.le_of_ble_eq_true rfl) dX7_writeAnswer_30 rfl ?_
  refine uu_aload_n dX7_writeAnswer_33 rfl (List.mem_of_getElem? (i := 1) rfl) ?_
  refine uu_geta (ci := 7) (N := 20) fX7_29 (by decide) so_1070.is (by decide) (c := 1075) (by decide) dX7_writeAnswer_34 ?_
  refine uu_aload_n dX7_writeAnswer_37 rfl (List.mem_of_getElem? (i := 1) rfl) ?_
  refine uu_geta (ci := 7) (N := 20) fX7_37 (by decide) so_1070.is (by decide) (c := 1053) (by decide) dX7_writeAnswer_38 ?_
  refine uu_geta (ci := 6) (N := 6) fX7_213 (by decide) so_1053.is (by decide) (c := 1042) (by decide) dX7_writeAnswer_41 ?_
  refine uu_geta (ci := 0) (N := 12) fX7_217 (by decide) so_1042.is (by decide) (c := 1043) (by decide) dX7_writeAnswer_44 ?_
  refine uu_iconst (v := 0) dX7_writeAnswer_47 (by decide) ?_
  obtain ⟨s6, e7, h⟩ := uu_ob h
  refine uu_cv (d1 := 2) (k := 1075) (ci := 9) (T := TX9) (N := 6) (As := [.ref (B + 1043), .int 0]) (st := []) (st' := []) (xc_X9_putFrom uk un so_1075 so_1043 e7) so_1075.is (by decide) rfl kX9_putFrom lX7_267 sX9_putFrom (by decide) (Nat.le_of_ble_eq_true rfl) dX7_writeAnswer_48 rfl ?_
  refine uu_aload_n dX7_writeAnswer_51 rfl (List.mem_of_getElem? (i := 1) rfl) ?_
  refine uu_geta (ci := 7) (N := 20) fX7_29 (by decide) so_1070.is (by decide) (c := 1075) (by decide) dX7_writeAnswer_52 ?_
  obtain ⟨cq8, cp8, cv8, cw8⟩ := uk.2.1 61 _ rfl
  refine uu_ldcwS cv8 dX7_writeAnswer_55 ?_
  obtain ⟨s9, e10, h⟩ := uu_ob h
  refine uu_cv (d1 := 4) (k := 1075) (ci := 9) (T := TX9) (N := 6) (As := [.ref cq8]) (st := []) (st' := []) (xc_X9_putText uk so_1075 cw8 e10) so_1075.is (by decide) rfl kX9_putText lX7_263 sX9_putText (by decide) (Nat.le_of_ble_eq_true rfl) dX7_writeAnswer_58 rfl ?_
  refine uu_aload_n dX7_writeAnswer_61 rfl (List.mem_of_getElem? (i := 2) rfl) ?_
  refine uu_geti (ci := 3) (N := 15) fX7_116 (by decide) hk1.is (by decide) (by decide) dX7_writeAnswer_62 ?_
  refine uu_bipush (v := 6) dX7_writeAnswer_65 (by decide) ?_
  refine uu_icmp_ne (tgt := 83) dX7_writeAnswer_67 (by decide) (fun c11 => ?_) (fun c11 => ?_)
  · replace h := uu_neg c11 h
    refine uu_aload_n dX7_writeAnswer_83 rfl (List.mem_of_getElem? (i := 2) rfl) ?_
    refine uu_bipush (v := 64) dX7_writeAnswer_84 (by decide) ?_
    obtain ⟨v12, e13, h⟩ := uu_ob h
    refine uu_cv (d1 := 0) (k := k1) (ci := 3) (T := TX3) (N := 15) (As := [.int 64]) (st := []) (st' := [.int (bI v12)]) (xc_X3_has uk hk1 e13) hk1.is (by decide) rfl kX3_has lX7_168 sX3_has (by decide) (Nat.le_of_ble_eq_true rfl) dX7_writeAnswer_86 rfl ?_
    refine uu_ifb_eq (tgt := 110) dX7_writeAnswer_89 (by decide) (fun c14 => ?_) (fun c14 => ?_)
    · replace h := uu_neg c14 h
      refine uu_aload_n dX7_writeAnswer_110 rfl (List.mem_of_getElem? (i := 1) rfl) ?_
      refine uu_geta (ci := 7) (N := 20) fX7_29 (by decide) so_1070.is (by decide) (c := 1075) (by decide) dX7_writeAnswer_111 ?_
      obtain ⟨cq15, cp15, cv15, cw15⟩ := uk.2.1 63 _ rfl
      refine uu_ldcwS cv15 dX7_writeAnswer_114 ?_
      obtain ⟨s16, e17, h⟩ := uu_ob h
      refine uu_cv (d1 := 4) (k := 1075) (ci := 9) (T := TX9) (N := 6) (As := [.ref cq15]) (st := []) (st' := []) (xc_X9_putText uk so_1075 cw15 e17) so_1075.is (by decide) rfl kX9_putText lX7_263 sX9_putText (by decide) (Nat.le_of_ble_eq_true rfl) dX7_writeAnswer_117 rfl ?_
      refine uu_aload_n dX7_writeAnswer_120 rfl (List.mem_of_getElem? (i := 1) rfl) ?_
      refine uu_geta (ci := 7) (N := 20) fX7_29 (by decide) so_1070.is (by decide) (c := 1075) (by decide) dX7_writeAnswer_121 ?_
      refine uu_aload_n dX7_writeAnswer_124 rfl (List.mem_of_getElem? (i := 1) rfl) ?_
      refine uu_geta (ci := 7) (N := 20) fX7_37 (by decide) so_1070.is (by decide) (c := 1053) (by decide) dX7_writeAnswer_125 ?_
      refine uu_geta (ci := 6) (N := 6) fX7_277 (by decide) so_1053.is (by decide) (c := 1058) (by decide) dX7_writeAnswer_128 ?_
      refine uu_aload_n dX7_writeAnswer_131 rfl (List.mem_of_getElem? (i := 1) rfl) ?_
      refine uu_geta (ci := 7) (N := 20) fX7_37 (by decide) so_1070.is (by decide) (c := 1053) (by decide) dX7_writeAnswer_132 ?_
      obtain ⟨cq18, cp18, cv18, cw18⟩ := uk.2.1 64 _ rfl
      refine uu_ldcwS cv18 dX7_writeAnswer_135 ?_
      obtain ⟨v19, e20, h⟩ := uu_ob h
      refine uu_cv (d1 := 5) (k := 1053) (ci := 6) (T := TX6) (N := 6) (As := [.ref cq18]) (st := [.ref (B + 1058), .ref (B + 1075)]) (st' := [.int v19, .ref (B + 1058), .ref (B + 1075)]) (xc_X6_fieldNamed uk cw18 e20) so_1053.is (by decide) rfl kX6_fieldNamed lX7_282 sX6_fieldNamed (by decide) (Nat.le_of_ble_eq_true rfl) dX7_writeAnswer_138 rfl ?_
      obtain ⟨s21, e22, h⟩ := uu_ob h
      refine uu_cv (d1 := 2) (k := 1075) (ci := 9) (T := TX9) (N := 6) (As := [.ref (B + 1058), .int v19]) (st := []) (st' := []) (xc_X9_putFrom uk un so_1075 so_1058 e22) so_1075.is (by decide) rfl kX9_putFrom lX7_267 sX9_putFrom (by decide) (Nat.le_of_ble_eq_true rfl) dX7_writeAnswer_141 rfl ?_
      refine uu_lv [1, 2, 0] (lv' := [(0, .ref (B + 1070)), (1, .ref (B + k1)), (2, .ref (B + 8))]) rfl ?_
      exact xb_X7_writeAnswer_144 uk un hk1 h
    · replace h := uu_pos c14 h
      refine uu_aload_n dX7_writeAnswer_92 rfl (List.mem_of_getElem? (i := 1) rfl) ?_
      refine uu_geta (ci := 7) (N := 20) fX7_29 (by decide) so_1070.is (by decide) (c := 1075) (by decide) dX7_writeAnswer_93 ?_
      refine uu_aload_n dX7_writeAnswer_96 rfl (List.mem_of_getElem? (i := 0) rfl) ?_
      refine uu_aload_n dX7_writeAnswer_97 rfl (List.mem_of_getElem? (i := 2) rfl) ?_
      refine uu_getc (ci := 3) (N := 15) fX7_149 (by decide) hk1.is (by decide) (c := 1) (by decide) (k2 := k1 + 1) rfl dX7_writeAnswer_98 ?_
      refine uu_bipush (v := 6) dX7_writeAnswer_101 (by decide) ?_
      obtain ⟨v23, e24, h⟩ := uu_ob h
      refine uu_iald e24 dX7_writeAnswer_103 ?_
      obtain ⟨s25, e26, h⟩ := uu_ob h
      refine uu_cv (d1 := 2) (k := 1075) (ci := 9) (T := TX9) (N := 6) (As := [.ref (B + 8), .int v23]) (st := []) (st' := []) (xc_X9_putFrom uk un so_1075 so_8 e26) so_1075.is (by decide) rfl kX9_putFrom lX7_267 sX9_putFrom (by decide) (Nat.le_of_ble_eq_true rfl) dX7_writeAnswer_104 rfl ?_
      refine uu_goto (tgt := 144) dX7_writeAnswer_107 (by decide) ?_
      refine uu_lv [1, 2, 0] (lv' := [(0, .ref (B + 1070)), (1, .ref (B + k1)), (2, .ref (B + 8))]) rfl ?_
      exact xb_X7_writeAnswer_144 uk un hk1 h
  · replace h := uu_pos c11 h
    refine uu_aload_n dX7_writeAnswer_70 rfl (List.mem_of_getElem? (i := 1) rfl) ?_
    refine uu_geta (ci := 7) (N := 20) fX7_29 (by decide) so_1070.is (by decide) (c := 1075) (by decide) dX7_writeAnswer_71 ?_
    obtain ⟨cq27, cp27, cv27, cw27⟩ := uk.2.1 62 _ rfl
    refine uu_ldcwS cv27 dX7_writeAnswer_74 ?_
    obtain ⟨s28, e29, h⟩ := uu_ob h
    refine uu_cv (d1 := 4) (k := 1075) (ci := 9) (T := TX9) (N := 6) (As := [.ref cq27]) (st := []) (st' := []) (xc_X9_putText uk so_1075 cw27 e29) so_1075.is (by decide) rfl kX9_putText lX7_263 sX9_putText (by decide) (Nat.le_of_ble_eq_true rfl) dX7_writeAnswer_77 rfl ?_
    refine uu_goto (tgt := 144) dX7_writeAnswer_80 (by decide) ?_
    refine uu_lv [1, 2, 0] (lv' := [(0, .ref (B + 1070)), (1, .ref (B + k1)), (2, .ref (B + 8))]) rfl ?_
    exact xb_X7_writeAnswer_144 uk un hk1 h
abbrev mX7_finish : hM := (yX7_finish, cX7_finish, 3, none)
theorem dX7_finish_149 : decode cX7_finish 149 = .ok (.aload_n 0, 1) := by decide +kernel
theorem dX7_finish_150 : decode cX7_finish 150 = .ok (.aload_n 0, 1) := by decide +kernel
theorem dX7_finish_151 : decode cX7_finish 151 = .ok (.getfield 68, 3) := by decide +kernel
theorem kX7_writeAnswer : h_ml mX7_writeAnswer 1 := ⟨h_t6 56 rfl rfl, h_t1 15 rfl rfl, ⟨by decide, by decide, by decide +kernel⟩, by decide⟩
theorem lX7_225 : Cond.methodLink RX7 225 mX7_writeAnswer.1 ∈ lw_g := h_t6 53 rfl rfl
theorem sX7_writeAnswer : Cond.instanceMethod mX7_writeAnswer.1 ∈ lw_g ∧ Cond.selects mX7_writeAnswer.1.cls mX7_writeAnswer.1 mX7_writeAnswer.1 ∈ lw_g := ⟨h_t6 55 rfl rfl, h_ins 66 rfl⟩
theorem dX7_finish_154 : decode cX7_finish 154 = .ok (.invokevirtual 225, 3) := by decide +kernel
theorem dX7_finish_157 : decode cX7_finish 157 = .ok (.return_, 1) := by decide +kernel
theorem dX7_finish_59 : decode cX7_finish 59 = .ok (.aload_n 0, 1) := by decide +kernel
theorem dX7_finish_60 : decode cX7_finish 60 = .ok (.getfield 68, 3) := by decide +kernel
theorem dX7_finish_63 : decode cX7_finish 63 = .ok (.ifnull 94, 3) := by decide +kernel
theorem dX7_finish_66 : decode cX7_finish 66 = .ok (.aload_n 0, 1) := by decide +kernel
theorem dX7_finish_67 : decode cX7_finish 67 = .ok (.getfield 37, 3) := by decide +kernel
theorem kX6_isFromPerson : h_ml mX6_isFromPerson 0 := ⟨h_t6 77 rfl rfl, h_t1 14 rfl rfl, ⟨by decide, by decide, by decide +kernel⟩, by decide⟩
theorem lX7_228 : Cond.methodLink RX7 228 mX6_isFromPerson.1 ∈ lw_g := h_t6 74 rfl rfl
theorem sX6_isFromPerson : Cond.instanceMethod mX6_isFromPerson.1 ∈ lw_g ∧ Cond.selects mX6_isFromPerson.1.cls mX6_isFromPerson.1 mX6_isFromPerson.1 ∈ lw_g := ⟨h_t6 75 rfl rfl, h_t6 76 rfl rfl⟩
theorem dX7_finish_70 : decode cX7_finish 70 = .ok (.invokevirtual 228, 3) := by decide +kernel
theorem dX7_finish_73 : decode cX7_finish 73 = .ok (.ifCond .eq 84, 3) := by decide +kernel
theorem dX7_finish_76 : decode cX7_finish 76 = .ok (.aload_n 0, 1) := by decide +kernel
theorem dX7_finish_77 : decode cX7_finish 77 = .ok (.getfield 37, 3) := by decide +kernel
theorem dX7_finish_80 : decode cX7_finish 80 = .ok (.aload_n 0, 1) := by decide +kernel
theorem dX7_finish_81 : decode cX7_finish 81 = .ok (.getfield 68, 3) := by decide +kernel
theorem dX7_finish_84 : decode cX7_finish 84 = .ok (.aload_n 0, 1) := by decide +kernel
theorem dX7_finish_85 : decode cX7_finish 85 = .ok (.getfield 45, 3) := by decide +kernel
theorem kX6_isAddressed : h_ml mX6_isAddressed 2 := ⟨h_t6 90 rfl rfl, h_t1 14 rfl rfl, ⟨by decide, by decide, by decide +kernel⟩, by decide⟩
theorem lX7_231 : Cond.methodLink RX7 231 mX6_isAddressed.1 ∈ lw_g := h_t6 87 rfl rfl
theorem sX6_isAddressed : Cond.instanceMethod mX6_isAddressed.1 ∈ lw_g ∧ Cond.selects mX6_isAddressed.1.cls mX6_isAddressed.1 mX6_isAddressed.1 ∈ lw_g := ⟨h_t6 88 rfl rfl, h_t6 89 rfl rfl⟩
theorem dX7_finish_88 : decode cX7_finish 88 = .ok (.invokevirtual 231, 3) := by decide +kernel
theorem dX7_finish_91 : decode cX7_finish 91 = .ok (.ifCond .eq 66, 3) := by decide +kernel
theorem dX7_finish_94 : decode cX7_finish 94 = .ok (.aload_n 0, 1) := by decide +kernel
theorem dX7_finish_95 : decode cX7_finish 95 = .ok (.getfield 41, 3) := by decide +kernel
theorem dX7_finish_98 : decode cX7_finish 98 = .ok (.aload_n 0, 1) := by decide +kernel
theorem dX7_finish_99 : decode cX7_finish 99 = .ok (.getfield 37, 3) := by decide +kernel
theorem dX7_finish_102 : decode cX7_finish 102 = .ok (.getfield 213, 3) := by decide +kernel
theorem dX7_finish_105 : decode cX7_finish 105 = .ok (.getfield 217, 3) := by decide +kernel
theorem dX7_finish_108 : decode cX7_finish 108 = .ok (.aload_n 0, 1) := by decide +kernel
theorem dX7_finish_109 : decode cX7_finish 109 = .ok (.getfield 33, 3) := by decide +kernel
theorem dX7_finish_112 : decode cX7_finish 112 = .ok (.getfield 178, 3) := by decide +kernel
theorem dX7_finish_115 : decode cX7_finish 115 = .ok (.getfield 182, 3) := by decide +kernel
theorem dX7_finish_118 : decode cX7_finish 118 = .ok (.aload_n 0, 1) := by decide +kernel
theorem dX7_finish_119 : decode cX7_finish 119 = .ok (.getfield 68, 3) := by decide +kernel
theorem kX3_handle : h_ml mX3_handle 0 := ⟨h_t6 95 rfl rfl, h_t1 5 rfl rfl, ⟨by decide, by decide, by decide +kernel⟩, by decide⟩
theorem lX7_235 : Cond.methodLink RX7 235 mX3_handle.1 ∈ lw_g := h_t6 92 rfl rfl
theorem sX3_handle : Cond.instanceMethod mX3_handle.1 ∈ lw_g ∧ Cond.selects mX3_handle.1.cls mX3_handle.1 mX3_handle.1 ∈ lw_g := ⟨h_t6 93 rfl rfl, h_t6 94 rfl rfl⟩
theorem dX7_finish_122 : decode cX7_finish 122 = .ok (.invokevirtual 235, 3) := by decide +kernel
theorem kX10_latestNote : h_ml mX10_latestNote 3 := ⟨h_t6 100 rfl rfl, h_t1 8 rfl rfl, ⟨by decide, by decide, by decide +kernel⟩, by decide⟩
theorem lX7_239 : Cond.methodLink RX7 239 mX10_latestNote.1 ∈ lw_g := h_t6 97 rfl rfl
theorem sX10_latestNote : Cond.instanceMethod mX10_latestNote.1 ∈ lw_g ∧ Cond.selects mX10_latestNote.1.cls mX10_latestNote.1 mX10_latestNote.1 ∈ lw_g := ⟨h_t6 98 rfl rfl, h_t6 99 rfl rfl⟩
theorem dX7_finish_125 : decode cX7_finish 125 = .ok (.invokevirtual 239, 3) := by decide +kernel
theorem dX7_finish_128 : decode cX7_finish 128 = .ok (.astore_n 2, 1) := by decide +kernel
theorem dX7_finish_129 : decode cX7_finish 129 = .ok (.aload_n 2, 1) := by decide +kernel
theorem dX7_finish_130 : decode cX7_finish 130 = .ok (.ifnull 19, 3) := by decide +kernel
theorem dX7_finish_133 : decode cX7_finish 133 = .ok (.iload_n 1, 1) := by decide +kernel
theorem dX7_finish_134 : decode cX7_finish 134 = .ok (.aload_n 2, 1) := by decide +kernel
theorem fX7_243 : h_fl RX7 243 1 5 RX1 TX1 6 := ⟨rfl, by decide, inX1, h_t6 165 rfl rfl⟩
theorem dX7_finish_135 : decode cX7_finish 135 = .ok (.getfield 243, 3) := by decide +kernel
theorem dX7_finish_138 : decode cX7_finish 138 = .ok (.aload_n 0, 1) := by decide +kernel
theorem dX7_finish_139 : decode cX7_finish 139 = .ok (.getfield 68, 3) := by decide +kernel
theorem kX7_daysOf : h_ml mX7_daysOf 1 := ⟨h_t6 107 rfl rfl, h_t1 15 rfl rfl, ⟨by decide, by decide, by decide +kernel⟩, by decide⟩
theorem lX7_248 : Cond.methodLink RX7 248 mX7_daysOf.1 ∈ lw_g := h_t6 105 rfl rfl
theorem sX7_daysOf : Cond.static mX7_daysOf.1 ∈ lw_g := h_t6 106 rfl rfl
theorem dX7_finish_142 : decode cX7_finish 142 = .ok (.invokestatic 248, 3) := by decide +kernel
theorem dX7_finish_145 : decode cX7_finish 145 = .ok (.iadd, 1) := by decide +kernel
theorem dX7_finish_146 : decode cX7_finish 146 = .ok (.if_icmp .lt 11, 3) := by decide +kernel
theorem dX7_finish_27 : decode cX7_finish 27 = .ok (.aload_n 0, 1) := by decide +kernel
theorem dX7_finish_28 : decode cX7_finish 28 = .ok (.getfield 72, 3) := by decide +kernel
theorem dX7_finish_31 : decode cX7_finish 31 = .ok (.ifnull 28, 3) := by decide +kernel
theorem dX7_finish_34 : decode cX7_finish 34 = .ok (.aload_n 0, 1) := by decide +kernel
theorem dX7_finish_35 : decode cX7_finish 35 = .ok (.getfield 37, 3) := by decide +kernel
theorem dX7_finish_38 : decode cX7_finish 38 = .ok (.getfield 213, 3) := by decide +kernel
theorem dX7_finish_41 : decode cX7_finish 41 = .ok (.getfield 217, 3) := by decide +kernel
theorem dX7_finish_44 : decode cX7_finish 44 = .ok (.iconst 0, 1) := by decide +kernel
theorem lX7_222 : Cond.methodLink RX7 222 mX9_lengthOf.1 ∈ lw_g := h_t6 52 rfl rfl
theorem dX7_finish_45 : decode cX7_finish 45 = .ok (.invokevirtual 222, 3) := by decide +kernel
theorem dX7_finish_48 : decode cX7_finish 48 = .ok (.ifCond .le 11, 3) := by decide +kernel
theorem dX7_finish_51 : decode cX7_finish 51 = .ok (.aload_n 0, 1) := by decide +kernel
theorem dX7_finish_52 : decode cX7_finish 52 = .ok (.aload_n 0, 1) := by decide +kernel
theorem dX7_finish_53 : decode cX7_finish 53 = .ok (.getfield 72, 3) := by decide +kernel
theorem dX7_finish_56 : decode cX7_finish 56 = .ok (.invokevirtual 225, 3) := by decide +kernel
theorem dX7_finish_11 : decode cX7_finish 11 = .ok (.aload_n 0, 1) := by decide +kernel
theorem dX7_finish_12 : decode cX7_finish 12 = .ok (.getfield 81, 3) := by decide +kernel
theorem dX7_finish_15 : decode cX7_finish 15 = .ok (.ifCond .eq 12, 3) := by decide +kernel
theorem dX7_finish_18 : decode cX7_finish 18 = .ok (.aload_n 0, 1) := by decide +kernel
theorem dX7_finish_19 : decode cX7_finish 19 = .ok (.iconst 0, 1) := by decide +kernel
theorem dX7_finish_20 : decode cX7_finish 20 = .ok (.aload_n 0, 1) := by decide +kernel
theorem dX7_finish_21 : decode cX7_finish 21 = .ok (.getfield 84, 3) := by decide +kernel
theorem dX7_finish_24 : decode cX7_finish 24 = .ok (.invokevirtual 175, 3) := by decide +kernel
theorem dX7_finish_0 : decode cX7_finish 0 = .ok (.aload_n 0, 1) := by decide +kernel
theorem dX7_finish_1 : decode cX7_finish 1 = .ok (.getfield 49, 3) := by decide +kernel
theorem dX7_finish_4 : decode cX7_finish 4 = .ok (.ifCond .eq 7, 3) := by decide +kernel
theorem dX7_finish_7 : decode cX7_finish 7 = .ok (.aload_n 0, 1) := by decide +kernel
theorem dX7_finish_8 : decode cX7_finish 8 = .ok (.invokevirtual 56, 3) := by decide +kernel
def fb_X7_finish_149   (s : uS) : Option uS := (s.R 1070 9).elim (none) (fun j1 => if uSo j1 3 then ((fn_X7_writeAnswer j1 s).bind fun s2 => some s2) else none)
set_option maxRecDepth 100000 in
set_option maxHeartbeats 4000000 in
theorem xb_X7_finish_149 {l : Launch} {D : va_G} {A : Nat → ClassId} {B : Nat} {Z : State → Heap → Prop} {vF : Value} (uk : uK B Z vF) (un : uX A B Z)    {s : uS} {r : uS}  (h : fb_X7_finish_149   s = some r) : GU l D A B Z mX7_finish 8 (r, none) s 149 [(0, .ref (B + 1070))] [] := by
  unfold fb_X7_finish_149 at h
  refine uu_aload_n dX7_finish_149 rfl (List.mem_of_getElem? (i := 0) rfl) ?_
  refine uu_aload_n dX7_finish_150 rfl (List.mem_of_getElem? (i := 0) rfl) ?_
  refine uu_getv (ci := 7) (N := 20) fX7_68 (by decide) so_1070.is (by decide) (by decide) dX7_finish_151 ?_
  rcases uu_oe h with ⟨eo1, h⟩ | ⟨j1, eo1, h⟩
  · rw [eo1]
    cases h
  · rw [eo1]
    obtain ⟨hj1, h⟩ := uu_grd h
    obtain ⟨s2, e3, h⟩ := uu_ob h
    refine uu_cv (d1 := 6) (k := 1070) (ci := 7) (T := TX7) (N := 20) (As := [.ref (B + j1)]) (st := []) (st' := []) (xc_X7_writeAnswer uk un hj1 e3) so_1070.is (by decide) rfl kX7_writeAnswer lX7_225 sX7_writeAnswer (by decide) (Nat.le_of_ble_eq_true rfl) dX7_finish_154 rfl ?_
    have hr := Option.some.inj h
    subst hr
    exact uu_vret rfl dX7_finish_157
def fb_X7_finish_59  (x1 : Int32) (s : uS) : Option uS := (s.R 1070 9).elim (some s) (fun j1 => if uSo j1 3 then ((fn_X6_isFromPerson s).bind fun v2 => if v2 = true then ((s.R 1070 9).elim (none) (fun j5 => if uSo j5 3 then ((fn_X6_isAddressed j5 (s.I 1070 12) s).bind fun r6 => if r6.2 = true then ((r6.1.R 1070 11).bind fun j9 => if uSo j9 10 then ((r6.1.R 1070 9).elim (none) (fun j12 => if uSo j12 3 then ((fn_X3_handle j12 r6.1).bind fun v13 => (fn_X10_latestNote j9 1043 8 v13 r6.1).bind fun v15 => v15.elim (fb_X7_finish_149 r6.1) (fun j17 => if uIs r6.1 j17 1 then ((r6.1.R 1070 9).elim (none) (fun j19 => if uSo j19 3 then ((fn_X7_daysOf j19 r6.1).bind fun v20 => if x1 < ((r6.1.I j17 5) + v20) then (some r6.1) else (fb_X7_finish_149 r6.1)) else none)) else none)) else none)) else none) else (some r6.1)) else none)) else (some s)) else none)
set_option maxRecDepth 100000 in
set_option maxHeartbeats 4000000 in
theorem xb_X7_finish_59 {l : Launch} {D : va_G} {A : Nat → ClassId} {B : Nat} {Z : State → Heap → Prop} {vF : Value} (uk : uK B Z vF) (un : uX A B Z)   {x1 : Int32} {s : uS} {r : uS}  (h : fb_X7_finish_59  x1 s = some r) : GU l D A B Z mX7_finish 8 (r, none) s 59 [(0, .ref (B + 1070)), (1, .int x1)] [] := by
  unfold fb_X7_finish_59 at h
  refine uu_aload_n dX7_finish_59 rfl (List.mem_of_getElem? (i := 0) rfl) ?_
  refine uu_getv (ci := 7) (N := 20) fX7_68 (by decide) so_1070.is (by decide) (by decide) dX7_finish_60 ?_
  rcases uu_oe h with ⟨eo1, h⟩ | ⟨j1, eo1, h⟩
  · rw [eo1]
    refine uu_ifnullN (tgt := 157) dX7_finish_63 (by decide) ?_
    have hr := Option.some.inj h
    subst hr
    exact uu_vret rfl dX7_finish_157
  · rw [eo1]
    obtain ⟨hj1, h⟩ := uu_grd h
    refine uu_ifnull dX7_finish_63 ?_
    refine uu_aload_n dX7_finish_66 rfl (List.mem_of_getElem? (i := 0) rfl) ?_
    refine uu_geta (ci := 7) (N := 20) fX7_37 (by decide) so_1070.is (by decide) (c := 1053) (by decide) dX7_finish_67 ?_
    obtain ⟨v2, e3, h⟩ := uu_ob h
    refine uu_cv (d1 := 6) (k := 1053) (ci := 6) (T := TX6) (N := 6) (As := []) (st := []) (st' := [.int (bI v2)]) (xc_X6_isFromPerson uk  e3) so_1053.is (by decide) rfl kX6_isFromPerson lX7_228 sX6_isFromPerson (by decide) (Nat.le_of_ble_eq_true rfl) dX7_finish_70 rfl ?_
    refine uu_ifb_eq (tgt := 157) dX7_finish_73 (by decide) (fun c4 => ?_) (fun c4 => ?_)
    · replace h := uu_neg c4 h
      have hr := Option.some.inj h
      subst hr
      exact uu_vret rfl dX7_finish_157
    · replace h := uu_pos c4 h
      refine uu_aload_n dX7_finish_76 rfl (List.mem_of_getElem? (i := 0) rfl) ?_
      refine uu_geta (ci := 7) (N := 20) fX7_37 (by decide) so_1070.is (by decide) (c := 1053) (by decide) dX7_finish_77 ?_
      refine uu_aload_n dX7_finish_80 rfl (List.mem_of_getElem? (i := 0) rfl) ?_
      refine uu_getv (ci := 7) (N := 20) fX7_68 (by decide) so_1070.is (by decide) (by decide) dX7_finish_81 ?_
      rcases uu_oe h with ⟨eo5, h⟩ | ⟨j5, eo5, h⟩
      · rw [eo5]
        refine uu_aload_n dX7_finish_84 rfl (List.mem_of_getElem? (i := 0) rfl) ?_
        refine uu_geti (ci := 7) (N := 20) fX7_45 (by decide) so_1070.is (by decide) (by decide) dX7_finish_85 ?_
        cases h
      · rw [eo5]
        obtain ⟨hj5, h⟩ := uu_grd h
        refine uu_aload_n dX7_finish_84 rfl (List.mem_of_getElem? (i := 0) rfl) ?_
        refine uu_geti (ci := 7) (N := 20) fX7_45 (by decide) so_1070.is (by decide) (by decide) dX7_finish_85 ?_
        obtain ⟨r6, e7, h⟩ := uu_ob h
        refine uu_cv (d1 := 7) (k := 1053) (ci := 6) (T := TX6) (N := 6) (As := [.ref (B + j5), .int (s.I 1070 12)]) (st := []) (st' := [.int (bI r6.2)]) (xc_X6_isAddressed uk un hj5 e7) so_1053.is (by decide) rfl kX6_isAddressed lX7_231 sX6_isAddressed (by decide) (Nat.le_of_ble_eq_true rfl) dX7_finish_88 rfl ?_
        refine uu_ifb_eq (tgt := 157) dX7_finish_91 (by decide) (fun c8 => ?_) (fun c8 => ?_)
        · replace h := uu_neg c8 h
          have hr := Option.some.inj h
          subst hr
          exact uu_vret rfl dX7_finish_157
        · replace h := uu_pos c8 h
          refine uu_aload_n dX7_finish_94 rfl (List.mem_of_getElem? (i := 0) rfl) ?_
          obtain ⟨j9, e10, h⟩ := uu_ob h
          refine uu_getr (ci := 7) (N := 20) fX7_41 (by decide) so_1070.is (by decide) (by decide) e10 dX7_finish_95 ?_
          obtain ⟨g11, h⟩ := uu_grd h
          refine uu_aload_n dX7_finish_98 rfl (List.mem_of_getElem? (i := 0) rfl) ?_
          refine uu_geta (ci := 7) (N := 20) fX7_37 (by decide) so_1070.is (by decide) (c := 1053) (by decide) dX7_finish_99 ?_
          refine uu_geta (ci := 6) (N := 6) fX7_213 (by decide) so_1053.is (by decide) (c := 1042) (by decide) dX7_finish_102 ?_
          refine uu_geta (ci := 0) (N := 12) fX7_217 (by decide) so_1042.is (by decide) (c := 1043) (by decide) dX7_finish_105 ?_
          refine uu_aload_n dX7_finish_108 rfl (List.mem_of_getElem? (i := 0) rfl) ?_
          refine uu_geta (ci := 7) (N := 20) fX7_33 (by decide) so_1070.is (by decide) (c := 6) (by decide) dX7_finish_109 ?_
          refine uu_geta (ci := 4) (N := 9) fX7_178 (by decide) so_6.is (by decide) (c := 7) (by decide) dX7_finish_112 ?_
          refine uu_geta (ci := 2) (N := 9) fX7_182 (by decide) so_7.is (by decide) (c := 8) (by decide) dX7_finish_115 ?_
          refine uu_aload_n dX7_finish_118 rfl (List.mem_of_getElem? (i := 0) rfl) ?_
          refine uu_getv (ci := 7) (N := 20) fX7_68 (by decide) so_1070.is (by decide) (by decide) dX7_finish_119 ?_
          rcases uu_oe h with ⟨eo12, h⟩ | ⟨j12, eo12, h⟩
          · rw [eo12]
            cases h
          · rw [eo12]
            obtain ⟨hj12, h⟩ := uu_grd h
            obtain ⟨v13, e14, h⟩ := uu_ob h
            refine uu_cv (d1 := 1) (k := j12) (ci := 3) (T := TX3) (N := 15) (As := []) (st := [.ref (B + 8), .ref (B + 1043), .ref (B + j9)]) (st' := [.int v13, .ref (B + 8), .ref (B + 1043), .ref (B + j9)]) (xc_X3_handle uk hj12 e14) hj12.is (by decide) rfl kX3_handle lX7_235 sX3_handle (by decide) (Nat.le_of_ble_eq_true rfl) dX7_finish_122 rfl ?_
            obtain ⟨v15, e16, h⟩ := uu_ob h
            refine uu_cv (d1 := 2) (k := j9) (ci := 10) (T := TX10) (N := 6) (As := [.ref (B + 1043), .ref (B + 8), .int v13]) (st := []) (st' := [va_rf (v15.map (fun x => B + x))]) (xc_X10_latestNote uk g11 so_1043 so_8 e16) g11.is (by decide) rfl kX10_latestNote lX7_239 sX10_latestNote (by decide) (Nat.le_of_ble_eq_true rfl) dX7_finish_125 rfl ?_
            rcases uu_oe h with ⟨eo17, h⟩ | ⟨j17, eo17, h⟩
            · rw [eo17]
              refine uu_astore_nN dX7_finish_128 rfl (by decide) rfl ?_
              refine uu_aload_nN dX7_finish_129 rfl (List.mem_of_getElem? (i := 0) rfl) ?_
              refine uu_ifnullN (tgt := 149) dX7_finish_130 (by decide) ?_
              refine uu_lv [1] (lv' := [(0, .ref (B + 1070))]) rfl ?_
              exact xb_X7_finish_149 uk un  h
            · rw [eo17]
              refine uu_astore_n dX7_finish_128 rfl (by decide) rfl ?_
              refine uu_aload_n dX7_finish_129 rfl (List.mem_of_getElem? (i := 0) rfl) ?_
              refine uu_ifnull dX7_finish_130 ?_
              refine uu_iload_n dX7_finish_133 rfl (List.mem_of_getElem? (i := 2) rfl) ?_
              refine uu_aload_n dX7_finish_134 rfl (List.mem_of_getElem? (i := 0) rfl) ?_
              obtain ⟨g18, h⟩ := uu_grd h
              refine uu_geti (ci := 1) (N := 6) fX7_243 (by decide) g18 (by decide) (by decide) dX7_finish_135 ?_
              refine uu_aload_n dX7_finish_138 rfl (List.mem_of_getElem? (i := 1) rfl) ?_
              refine uu_getv (ci := 7) (N := 20) fX7_68 (by decide) so_1070.is (by decide) (by decide) dX7_finish_139 ?_
              rcases uu_oe h with ⟨eo19, h⟩ | ⟨j19, eo19, h⟩
              · rw [eo19]
                cases h
              · rw [eo19]
                obtain ⟨hj19, h⟩ := uu_grd h
                obtain ⟨v20, e21, h⟩ := uu_ob h
                refine uu_cs (d1 := 1) (As := [.ref (B + j19)]) (st := [.int (r6.1.I j17 5), .int x1]) (st' := [.int v20, .int (r6.1.I j17 5), .int x1]) (xc_X7_daysOf uk hj19 e21) kX7_daysOf lX7_248 sX7_daysOf (by decide) (Nat.le_of_ble_eq_true rfl) dX7_finish_142 rfl ?_
                refine uu_iadd dX7_finish_145 ?_
                refine uu_icmp_lt (tgt := 157) dX7_finish_146 (by decide) (fun c22 => ?_) (fun c22 => ?_)
                · replace h := uu_pos c22 h
                  have hr := Option.some.inj h
                  subst hr
                  exact uu_vret rfl dX7_finish_157
                · replace h := uu_neg c22 h
                  refine uu_lv [1] (lv' := [(0, .ref (B + 1070))]) rfl ?_
                  exact xb_X7_finish_149 uk un  h
def fb_X7_finish_27  (x1 : Int32) (s : uS) : Option uS := (s.R 1070 10).elim (fb_X7_finish_59 x1 s) (fun j1 => if uSo j1 3 then ((fn_X9_lengthOf 1043 0 s).bind fun v2 => if v2 ≤ 0 then (fb_X7_finish_59 x1 s) else ((s.R 1070 10).elim (none) (fun j5 => if uSo j5 3 then ((fn_X7_writeAnswer j5 s).bind fun s6 => fb_X7_finish_59 x1 s6) else none))) else none)
set_option maxRecDepth 100000 in
set_option maxHeartbeats 4000000 in
theorem xb_X7_finish_27 {l : Launch} {D : va_G} {A : Nat → ClassId} {B : Nat} {Z : State → Heap → Prop} {vF : Value} (uk : uK B Z vF) (un : uX A B Z)   {x1 : Int32} {s : uS} {r : uS}  (h : fb_X7_finish_27  x1 s = some r) : GU l D A B Z mX7_finish 8 (r, none) s 27 [(0, .ref (B + 1070)), (1, .int x1)] [] := by
  unfold fb_X7_finish_27 at h
  refine uu_aload_n dX7_finish_27 rfl (List.mem_of_getElem? (i := 0) rfl) ?_
  refine uu_getv (ci := 7) (N := 20) fX7_72 (by decide) so_1070.is (by decide) (by decide) dX7_finish_28 ?_
  rcases uu_oe h with ⟨eo1, h⟩ | ⟨j1, eo1, h⟩
  · rw [eo1]
    refine uu_ifnullN (tgt := 59) dX7_finish_31 (by decide) ?_
    exact xb_X7_finish_59 uk un  h
  · rw [eo1]
    obtain ⟨hj1, h⟩ := uu_grd h
    refine uu_ifnull dX7_finish_31 ?_
    refine uu_aload_n dX7_finish_34 rfl (List.mem_of_getElem? (i := 0) rfl) ?_
    refine uu_geta (ci := 7) (N := 20) fX7_37 (by decide) so_1070.is (by decide) (c := 1053) (by decide) dX7_finish_35 ?_
    refine uu_geta (ci := 6) (N := 6) fX7_213 (by decide) so_1053.is (by decide) (c := 1042) (by decide) dX7_finish_38 ?_
    refine uu_geta (ci := 0) (N := 12) fX7_217 (by decide) so_1042.is (by decide) (c := 1043) (by decide) dX7_finish_41 ?_
    refine uu_iconst (v := 0) dX7_finish_44 (by decide) ?_
    obtain ⟨v2, e3, h⟩ := uu_ob h
    refine uu_cv (d1 := 0) (k := 1043) (ci := 9) (T := TX9) (N := 6) (As := [.int 0]) (st := []) (st' := [.int v2]) (xc_X9_lengthOf uk so_1043 e3) so_1043.is (by decide) rfl kX9_lengthOf lX7_222 sX9_lengthOf (by decide) (Nat.le_of_ble_eq_true rfl) dX7_finish_45 rfl ?_
    refine uu_if_le (tgt := 59) dX7_finish_48 (by decide) (fun c4 => ?_) (fun c4 => ?_)
    · replace h := uu_pos c4 h
      exact xb_X7_finish_59 uk un  h
    · replace h := uu_neg c4 h
      refine uu_aload_n dX7_finish_51 rfl (List.mem_of_getElem? (i := 0) rfl) ?_
      refine uu_aload_n dX7_finish_52 rfl (List.mem_of_getElem? (i := 0) rfl) ?_
      refine uu_getv (ci := 7) (N := 20) fX7_72 (by decide) so_1070.is (by decide) (by decide) dX7_finish_53 ?_
      rcases uu_oe h with ⟨eo5, h⟩ | ⟨j5, eo5, h⟩
      · rw [eo5]
        cases h
      · rw [eo5]
        obtain ⟨hj5, h⟩ := uu_grd h
        obtain ⟨s6, e7, h⟩ := uu_ob h
        refine uu_cv (d1 := 6) (k := 1070) (ci := 7) (T := TX7) (N := 20) (As := [.ref (B + j5)]) (st := []) (st' := []) (xc_X7_writeAnswer uk un hj5 e7) so_1070.is (by decide) rfl kX7_writeAnswer lX7_225 sX7_writeAnswer (by decide) (Nat.le_of_ble_eq_true rfl) dX7_finish_56 rfl ?_
        exact xb_X7_finish_59 uk un  h
def fb_X7_finish_11  (x1 : Int32) (s : uS) : Option uS := if (s.I 1070 14) = 0 then (fb_X7_finish_27 x1 s) else ((fn_X7_addFile 0 (s.I 1070 13) s).bind fun s2 => fb_X7_finish_27 x1 s2)
set_option maxRecDepth 100000 in
set_option maxHeartbeats 4000000 in
theorem xb_X7_finish_11 {l : Launch} {D : va_G} {A : Nat → ClassId} {B : Nat} {Z : State → Heap → Prop} {vF : Value} (uk : uK B Z vF) (un : uX A B Z)   {x1 : Int32} {s : uS} {r : uS}  (h : fb_X7_finish_11  x1 s = some r) : GU l D A B Z mX7_finish 8 (r, none) s 11 [(0, .ref (B + 1070)), (1, .int x1)] [] := by
  unfold fb_X7_finish_11 at h
  refine uu_aload_n dX7_finish_11 rfl (List.mem_of_getElem? (i := 0) rfl) ?_
  refine uu_geti (ci := 7) (N := 20) fX7_81 (by decide) so_1070.is (by decide) (by decide) dX7_finish_12 ?_
  refine uu_if_eq (tgt := 27) dX7_finish_15 (by decide) (fun c1 => ?_) (fun c1 => ?_)
  · replace h := uu_pos c1 h
    exact xb_X7_finish_27 uk un  h
  · replace h := uu_neg c1 h
    refine uu_aload_n dX7_finish_18 rfl (List.mem_of_getElem? (i := 0) rfl) ?_
    refine uu_iconst (v := 0) dX7_finish_19 (by decide) ?_
    refine uu_aload_n dX7_finish_20 rfl (List.mem_of_getElem? (i := 0) rfl) ?_
    refine uu_geti (ci := 7) (N := 20) fX7_84 (by decide) so_1070.is (by decide) (by decide) dX7_finish_21 ?_
    obtain ⟨s2, e3, h⟩ := uu_ob h
    refine uu_cv (d1 := 0) (k := 1070) (ci := 7) (T := TX7) (N := 20) (As := [.int 0, .int (s.I 1070 13)]) (st := []) (st' := []) (xc_X7_addFile uk  e3) so_1070.is (by decide) rfl kX7_addFile lX7_175 sX7_addFile (by decide) (Nat.le_of_ble_eq_true rfl) dX7_finish_24 rfl ?_
    exact xb_X7_finish_27 uk un  h
def fn_X7_finish (x1 : Int32) (s : uS) : Option uS := if (s.I 1070 16) = 0 then (fb_X7_finish_11 x1 s) else ((fn_X7_clearPlan s).bind fun s2 => fb_X7_finish_11 x1 s2)
set_option maxRecDepth 100000 in
set_option maxHeartbeats 4000000 in
theorem xc_X7_finish {l : Launch} {D : va_G} {A : Nat → ClassId} {B : Nat} {Z : State → Heap → Prop} {vF : Value} (uk : uK B Z vF) (un : uX A B Z) {x1 : Int32} {s : uS} {r : uS}  (h : fn_X7_finish x1 s = some r) : CU l D A B Z 8 mX7_finish s [.ref (B + 1070), .int x1] (r, none) := by
  unfold fn_X7_finish at h
  refine cu_of rfl uk.1.1 (Nat.le_of_ble_eq_true rfl) ?_
  show GU _ _ _ _ _ _ _ _ _ 0 [(0, .ref (B + 1070)), (1, .int x1)] []
  refine uu_aload_n dX7_finish_0 rfl (List.mem_of_getElem? (i := 0) rfl) ?_
  refine uu_geti (ci := 7) (N := 20) fX7_49 (by decide) so_1070.is (by decide) (by decide) dX7_finish_1 ?_
  refine uu_if_eq (tgt := 11) dX7_finish_4 (by decide) (fun c1 => ?_) (fun c1 => ?_)
  · replace h := uu_pos c1 h
    exact xb_X7_finish_11 uk un  h
  · replace h := uu_neg c1 h
    refine uu_aload_n dX7_finish_7 rfl (List.mem_of_getElem? (i := 0) rfl) ?_
    obtain ⟨s2, e3, h⟩ := uu_ob h
    refine uu_cv (d1 := 0) (k := 1070) (ci := 7) (T := TX7) (N := 20) (As := []) (st := []) (st' := []) (xc_X7_clearPlan uk  e3) so_1070.is (by decide) rfl kX7_clearPlan lX7_56 sX7_clearPlan (by decide) (Nat.le_of_ble_eq_true rfl) dX7_finish_8 rfl ?_
    exact xb_X7_finish_11 uk un  h
abbrev mX9_copyOf : hM := (yX9_copyOf, cX9_copyOf, 2, (some (.array FieldType.byte)))
theorem dX9_copyOf_0 : decode cX9_copyOf 0 = .ok (.aload_n 0, 1) := by decide +kernel
theorem dX9_copyOf_1 : decode cX9_copyOf 1 = .ok (.iload_n 1, 1) := by decide +kernel
theorem dX9_copyOf_2 : decode cX9_copyOf 2 = .ok (.invokevirtual 68, 3) := by decide +kernel
theorem dX9_copyOf_5 : decode cX9_copyOf 5 = .ok (.ifCond .eq 25, 3) := by decide +kernel
theorem dX9_copyOf_30 : decode cX9_copyOf 30 = .ok (.iconst 0, 1) := by decide +kernel
theorem dX9_copyOf_31 : decode cX9_copyOf 31 = .ok (.newarray .byte, 2) := by decide +kernel
theorem dX9_copyOf_33 : decode cX9_copyOf 33 = .ok (.areturn, 1) := by decide +kernel
theorem dX9_copyOf_8 : decode cX9_copyOf 8 = .ok (.aload_n 0, 1) := by decide +kernel
theorem dX9_copyOf_9 : decode cX9_copyOf 9 = .ok (.getfield 9, 3) := by decide +kernel
theorem dX9_copyOf_12 : decode cX9_copyOf 12 = .ok (.aload_n 0, 1) := by decide +kernel
theorem dX9_copyOf_13 : decode cX9_copyOf 13 = .ok (.getfield 13, 3) := by decide +kernel
theorem dX9_copyOf_16 : decode cX9_copyOf 16 = .ok (.iload_n 1, 1) := by decide +kernel
theorem dX9_copyOf_17 : decode cX9_copyOf 17 = .ok (.iaload, 1) := by decide +kernel
theorem dX9_copyOf_18 : decode cX9_copyOf 18 = .ok (.aload_n 0, 1) := by decide +kernel
theorem dX9_copyOf_19 : decode cX9_copyOf 19 = .ok (.getfield 17, 3) := by decide +kernel
theorem dX9_copyOf_22 : decode cX9_copyOf 22 = .ok (.iload_n 1, 1) := by decide +kernel
theorem dX9_copyOf_23 : decode cX9_copyOf 23 = .ok (.iaload, 1) := by decide +kernel
theorem kJ7_copyOfRange_39247 : h_ml mJ7_copyOfRange_39247 3 := ⟨h_t6 189 rfl rfl, h_t1 20 rfl rfl, ⟨by decide, by decide, by decide +kernel⟩, by decide⟩
theorem lX9_71 : Cond.methodLink RX9 71 mJ7_copyOfRange_39247.1 ∈ lw_g := h_t6 187 rfl rfl
theorem sJ7_copyOfRange_39247 : Cond.static mJ7_copyOfRange_39247.1 ∈ lw_g := h_t6 188 rfl rfl
theorem dX9_copyOf_24 : decode cX9_copyOf 24 = .ok (.invokestatic 71, 3) := by decide +kernel
theorem dX9_copyOf_27 : decode cX9_copyOf 27 = .ok (.goto 6, 3) := by decide +kernel
def fn_X9_copyOf (k0 : Nat) (x1 : Int32) (s : uS) : Option (uS × Nat) := (fn_X9_has k0 x1 s).bind fun v1 => if v1 = true then ((iget 20 s (k0 + 2) x1).bind fun v6 => (iget 20 s (k0 + 3) x1).bind fun v8 => (fn_J7_copyOfRange_39247 (k0 + 1) v6 v8 s).bind fun r10 => some (r10.1, r10.2)) else ((nbuf s 0).bind fun s4 => some (s4, s.n))
set_option maxRecDepth 100000 in
set_option maxHeartbeats 4000000 in
theorem xc_X9_copyOf {l : Launch} {D : va_G} {A : Nat → ClassId} {B : Nat} {Z : State → Heap → Prop} {vF : Value} (uk : uK B Z vF) (un : uX A B Z) {k0 : Nat} {x1 : Int32} {s : uS} {r : (uS × Nat)} (hk0 : uSo k0 9) (h : fn_X9_copyOf k0 x1 s = some r) : CU l D A B Z 3 mX9_copyOf s [.ref (B + k0), .int x1] (r.1, some (.ref (B + r.2))) := by
  unfold fn_X9_copyOf at h
  refine cu_of rfl uk.1.1 (Nat.le_of_ble_eq_true rfl) ?_
  show GU _ _ _ _ _ _ _ _ _ 0 [(0, .ref (B + k0)), (1, .int x1)] []
  refine uu_aload_n dX9_copyOf_0 rfl (List.mem_of_getElem? (i := 0) rfl) ?_
  refine uu_iload_n dX9_copyOf_1 rfl (List.mem_of_getElem? (i := 1) rfl) ?_
  obtain ⟨v1, e2, h⟩ := uu_ob h
  refine uu_cv (d1 := 0) (k := k0) (ci := 9) (T := TX9) (N := 6) (As := [.int x1]) (st := []) (st' := [.int (bI v1)]) (xc_X9_has uk hk0 e2) hk0.is (by decide) rfl kX9_has lX9_68 sX9_has (by decide) (Nat.le_of_ble_eq_true rfl) dX9_copyOf_2 rfl ?_
  refine uu_ifb_eq (tgt := 30) dX9_copyOf_5 (by decide) (fun c3 => ?_) (fun c3 => ?_)
  · replace h := uu_neg c3 h
    refine uu_iconst (v := 0) dX9_copyOf_30 (by decide) ?_
    obtain ⟨s4, e5, h⟩ := uu_ob h
    refine uu_newb e5 dX9_copyOf_31 ?_
    have hr := Option.some.inj h
    subst hr
    exact uu_aret (v := .ref (B + s.n)) rfl (Or.inr ⟨_, rfl⟩) (Or.inr ⟨_, rfl⟩) dX9_copyOf_33
  · replace h := uu_pos c3 h
    refine uu_aload_n dX9_copyOf_8 rfl (List.mem_of_getElem? (i := 0) rfl) ?_
    refine uu_getc (ci := 9) (N := 6) fX9_9 (by decide) hk0.is (by decide) (c := 1) (by decide) (k2 := k0 + 1) rfl dX9_copyOf_9 ?_
    refine uu_aload_n dX9_copyOf_12 rfl (List.mem_of_getElem? (i := 0) rfl) ?_
    refine uu_getc (ci := 9) (N := 6) fX9_13 (by decide) hk0.is (by decide) (c := 2) (by decide) (k2 := k0 + 2) rfl dX9_copyOf_13 ?_
    refine uu_iload_n dX9_copyOf_16 rfl (List.mem_of_getElem? (i := 1) rfl) ?_
    obtain ⟨v6, e7, h⟩ := uu_ob h
    refine uu_iald e7 dX9_copyOf_17 ?_
    refine uu_aload_n dX9_copyOf_18 rfl (List.mem_of_getElem? (i := 0) rfl) ?_
    refine uu_getc (ci := 9) (N := 6) fX9_17 (by decide) hk0.is (by decide) (c := 3) (by decide) (k2 := k0 + 3) rfl dX9_copyOf_19 ?_
    refine uu_iload_n dX9_copyOf_22 rfl (List.mem_of_getElem? (i := 1) rfl) ?_
    obtain ⟨v8, e9, h⟩ := uu_ob h
    refine uu_iald e9 dX9_copyOf_23 ?_
    obtain ⟨r10, e11, h⟩ := uu_ob h
    refine uu_cs (d1 := 2) (As := [.ref (B + (k0 + 1)), .int v6, .int v8]) (st := []) (st' := [.ref (B + r10.2)]) (xc_J7_copyOfRange_39247 uk un  e11) kJ7_copyOfRange_39247 lX9_71 sJ7_copyOfRange_39247 (by decide) (Nat.le_of_ble_eq_true rfl) dX9_copyOf_24 rfl ?_
    refine uu_goto (tgt := 33) dX9_copyOf_27 (by decide) ?_
    have hr := Option.some.inj h
    subst hr
    exact uu_aret (v := .ref (B + r10.2)) rfl (Or.inr ⟨_, rfl⟩) (Or.inr ⟨_, rfl⟩) dX9_copyOf_33
abbrev mX10_putScript : hM := (yX10_putScript, cX10_putScript, 3, none)
theorem dX10_putScript_0 : decode cX10_putScript 0 = .ok (.aload_n 1, 1) := by decide +kernel
theorem dX10_putScript_1 : decode cX10_putScript 1 = .ok (.ifnull 15, 3) := by decide +kernel
theorem dX10_putScript_16 : decode cX10_putScript 16 = .ok (.aload_n 0, 1) := by decide +kernel
theorem dX10_putScript_17 : decode cX10_putScript 17 = .ok (.getfield 36, 3) := by decide +kernel
theorem dX10_putScript_20 : decode cX10_putScript 20 = .ok (.iconst 4, 1) := by decide +kernel
theorem dX10_putScript_21 : decode cX10_putScript 21 = .ok (.if_icmp .ge 39, 3) := by decide +kernel
theorem dX10_putScript_60 : decode cX10_putScript 60 = .ok (.return_, 1) := by decide +kernel
theorem dX10_putScript_24 : decode cX10_putScript 24 = .ok (.aload_n 0, 1) := by decide +kernel
theorem dX10_putScript_25 : decode cX10_putScript 25 = .ok (.getfield 11, 3) := by decide +kernel
theorem dX10_putScript_28 : decode cX10_putScript 28 = .ok (.aload_n 0, 1) := by decide +kernel
theorem dX10_putScript_29 : decode cX10_putScript 29 = .ok (.getfield 36, 3) := by decide +kernel
theorem nX10_9 : h_nl RX10 9 1 RX1 TX1 6 fsX1 := ⟨rfl, inX1, ⟨tyX1, tyX1_ok, by decide +kernel⟩, h_t2 68 rfl rfl, h_t6 147 rfl rfl, h_t1 21 rfl rfl⟩
theorem dX10_putScript_32 : decode cX10_putScript 32 = .ok (.new 9, 3) := by decide +kernel
theorem dX10_putScript_35 : decode cX10_putScript 35 = .ok (.dup, 1) := by decide +kernel
theorem dX10_putScript_36 : decode cX10_putScript 36 = .ok (.aload_n 2, 1) := by decide +kernel
theorem dX10_putScript_37 : decode cX10_putScript 37 = .ok (.iconst 0, 1) := by decide +kernel
theorem kX9_copyOf : h_ml mX9_copyOf 1 := ⟨h_t6 186 rfl rfl, h_t1 4 rfl rfl, ⟨by decide, by decide, by decide +kernel⟩, by decide⟩
theorem lX10_48 : Cond.methodLink RX10 48 mX9_copyOf.1 ∈ lw_g := h_t7 91 rfl rfl
theorem sX9_copyOf : Cond.instanceMethod mX9_copyOf.1 ∈ lw_g ∧ Cond.selects mX9_copyOf.1.cls mX9_copyOf.1 mX9_copyOf.1 ∈ lw_g := ⟨h_t6 184 rfl rfl, h_t6 185 rfl rfl⟩
theorem dX10_putScript_38 : decode cX10_putScript 38 = .ok (.invokevirtual 48, 3) := by decide +kernel
theorem dX10_putScript_41 : decode cX10_putScript 41 = .ok (.aload_n 2, 1) := by decide +kernel
theorem dX10_putScript_42 : decode cX10_putScript 42 = .ok (.iconst 1, 1) := by decide +kernel
theorem dX10_putScript_43 : decode cX10_putScript 43 = .ok (.invokevirtual 48, 3) := by decide +kernel
theorem kX1_init : h_ml mX1_init 2 := ⟨h_t6 152 rfl rfl, h_t1 21 rfl rfl, ⟨by decide, by decide, by decide +kernel⟩, by decide⟩
theorem lX10_55 : Cond.methodLink RX10 55 mX1_init.1 ∈ lw_g := h_t6 201 rfl rfl
theorem sX1_init : mX1_init.1.name = "<init>" ∧ Cond.instanceMethod mX1_init.1 ∈ lw_g := ⟨rfl, h_t6 151 rfl rfl⟩
theorem dX10_putScript_46 : decode cX10_putScript 46 = .ok (.invokespecial 55, 3) := by decide +kernel
theorem dX10_putScript_49 : decode cX10_putScript 49 = .ok (.aastore, 1) := by decide +kernel
theorem dX10_putScript_50 : decode cX10_putScript 50 = .ok (.aload_n 0, 1) := by decide +kernel
theorem dX10_putScript_51 : decode cX10_putScript 51 = .ok (.dup, 1) := by decide +kernel
theorem dX10_putScript_52 : decode cX10_putScript 52 = .ok (.getfield 36, 3) := by decide +kernel
theorem dX10_putScript_55 : decode cX10_putScript 55 = .ok (.iconst 1, 1) := by decide +kernel
theorem dX10_putScript_56 : decode cX10_putScript 56 = .ok (.iadd, 1) := by decide +kernel
theorem dX10_putScript_57 : decode cX10_putScript 57 = .ok (.putfield 36, 3) := by decide +kernel
theorem dX10_putScript_4 : decode cX10_putScript 4 = .ok (.aload_n 1, 1) := by decide +kernel
theorem dX10_putScript_5 : decode cX10_putScript 5 = .ok (.aload_n 2, 1) := by decide +kernel
theorem dX10_putScript_6 : decode cX10_putScript 6 = .ok (.iconst 1, 1) := by decide +kernel
theorem dX10_putScript_7 : decode cX10_putScript 7 = .ok (.invokevirtual 48, 3) := by decide +kernel
theorem dX10_putScript_10 : decode cX10_putScript 10 = .ok (.putfield 52, 3) := by decide +kernel
theorem dX10_putScript_13 : decode cX10_putScript 13 = .ok (.goto 47, 3) := by decide +kernel
def fn_X10_putScript (k0 : Nat) (o1 : Option Nat) (k2 : Nat) (s : uS) : Option uS := (match o1 with | none => if (4 : Int32) ≤ (s.I k0 3) then (some s) else ((nent s).bind fun s2 => (fn_X9_copyOf k2 0 s2).bind fun r4 => (fn_X9_copyOf k2 1 r4.1).bind fun r6 => if ¬ r4.2 = 0 then ((fn_X1_init s.n r4.2 r6.2 r6.1).bind fun s9 => (pput s9 (k0 + 1) (s.I k0 3) s.n).bind fun s11 => some (wI s11 k0 3 ((s11.I k0 3) + 1))) else none) | some ko1 => (fn_X9_copyOf k2 1 s).bind fun r13 => if uIs r13.1 ko1 1 then (some (wR r13.1 ko1 1 (some r13.2))) else none)
set_option maxRecDepth 100000 in
set_option maxHeartbeats 4000000 in
theorem xc_X10_putScript {l : Launch} {D : va_G} {A : Nat → ClassId} {B : Nat} {Z : State → Heap → Prop} {vF : Value} (uk : uK B Z vF) (un : uX A B Z) {k0 : Nat} {o1 : Option Nat} {k2 : Nat} {s : uS} {r : uS} (hk0 : uSo k0 10) (hk2 : uSo k2 9) (h : fn_X10_putScript k0 o1 k2 s = some r) : CU l D A B Z 4 mX10_putScript s [.ref (B + k0), va_rf (o1.map (fun x => B + x)), .ref (B + k2)] (r, none) := by
  unfold fn_X10_putScript at h
  cases o1 with
  | none =>
    refine cu_of rfl uk.1.1 (Nat.le_of_ble_eq_true rfl) ?_
    show GU _ _ _ _ _ _ _ _ _ 0 [(0, .ref (B + k0)), (1, .null), (2, .ref (B + k2))] []
    refine uu_aload_nN dX10_putScript_0 rfl (List.mem_of_getElem? (i := 1) rfl) ?_
    refine uu_ifnullN (tgt := 16) dX10_putScript_1 (by decide) ?_
    refine uu_aload_n dX10_putScript_16 rfl (List.mem_of_getElem? (i := 0) rfl) ?_
    refine uu_geti (ci := 10) (N := 6) fX10_36 (by decide) hk0.is (by decide) (by decide) dX10_putScript_17 ?_
    refine uu_iconst (v := 4) dX10_putScript_20 (by decide) ?_
    refine uu_icmp_ge (tgt := 60) dX10_putScript_21 (by decide) (fun c1 => ?_) (fun c1 => ?_)
    · replace h := uu_pos c1 h
      have hr := Option.some.inj h
      subst hr
      exact uu_vret rfl dX10_putScript_60
    · replace h := uu_neg c1 h
      refine uu_aload_n dX10_putScript_24 rfl (List.mem_of_getElem? (i := 0) rfl) ?_
      refine uu_getc (ci := 10) (N := 6) fX10_11 (by decide) hk0.is (by decide) (c := 1) (by decide) (k2 := k0 + 1) rfl dX10_putScript_25 ?_
      refine uu_aload_n dX10_putScript_28 rfl (List.mem_of_getElem? (i := 0) rfl) ?_
      refine uu_geti (ci := 10) (N := 6) fX10_36 (by decide) hk0.is (by decide) (by decide) dX10_putScript_29 ?_
      obtain ⟨s2, e3, h⟩ := uu_ob h
      refine uu_newE e3 nX10_9 dX10_putScript_32 ?_
      refine uu_dup dX10_putScript_35 rfl ?_
      refine uu_aload_n dX10_putScript_36 rfl (List.mem_of_getElem? (i := 2) rfl) ?_
      refine uu_iconst (v := 0) dX10_putScript_37 (by decide) ?_
      obtain ⟨r4, e5, h⟩ := uu_ob h
      refine uu_cv (d1 := 3) (k := k2) (ci := 9) (T := TX9) (N := 6) (As := [.int 0]) (st := [.ref (B + s.n), .ref (B + s.n), .int (s.I k0 3), .ref (B + (k0 + 1))]) (st' := [.ref (B + r4.2), .ref (B + s.n), .ref (B + s.n), .int (s.I k0 3), .ref (B + (k0 + 1))]) (xc_X9_copyOf uk un hk2 e5) hk2.is (by decide) rfl kX9_copyOf lX10_48 sX9_copyOf (by decide) (Nat.le_of_ble_eq_true rfl) dX10_putScript_38 rfl ?_
      refine uu_aload_n dX10_putScript_41 rfl (List.mem_of_getElem? (i := 2) rfl) ?_
      refine uu_iconst (v := 1) dX10_putScript_42 (by decide) ?_
      obtain ⟨r6, e7, h⟩ := uu_ob h
      refine uu_cv (d1 := 3) (k := k2) (ci := 9) (T := TX9) (N := 6) (As := [.int 1]) (st := [.ref (B + r4.2), .ref (B + s.n), .ref (B + s.n), .int (s.I k0 3), .ref (B + (k0 + 1))]) (st' := [.ref (B + r6.2), .ref (B + r4.2), .ref (B + s.n), .ref (B + s.n), .int (s.I k0 3), .ref (B + (k0 + 1))]) (xc_X9_copyOf uk un hk2 e7) hk2.is (by decide) rfl kX9_copyOf lX10_48 sX9_copyOf (by decide) (Nat.le_of_ble_eq_true rfl) dX10_putScript_43 rfl ?_
      obtain ⟨g8, h⟩ := uu_grd h
      obtain ⟨s9, e10, h⟩ := uu_ob h
      refine uu_ci (d1 := 1) (k := s.n) (As := [.ref (B + r4.2), .ref (B + r6.2)]) (st := [.ref (B + s.n), .int (s.I k0 3), .ref (B + (k0 + 1))]) (by have hc := xc_X1_init (l := l) (D := D) uk un  e10; rw [uad_ne g8] at hc; exact hc) rfl kX1_init lX10_55 sX1_init (by decide) (Nat.le_of_ble_eq_true rfl) dX10_putScript_46 ?_
      obtain ⟨s11, e12, h⟩ := uu_ob h
      refine uu_aast e12 dX10_putScript_49 ?_
      refine uu_aload_n dX10_putScript_50 rfl (List.mem_of_getElem? (i := 0) rfl) ?_
      refine uu_dup dX10_putScript_51 rfl ?_
      refine uu_geti (ci := 10) (N := 6) fX10_36 (by decide) hk0.is (by decide) (by decide) dX10_putScript_52 ?_
      refine uu_iconst (v := 1) dX10_putScript_55 (by decide) ?_
      refine uu_iadd dX10_putScript_56 ?_
      refine uu_puti (ft := .int) (ci := 10) (N := 6) fX10_36 ptX10 (Or.inl rfl) (by decide) hk0.is (by decide) (by decide) (by decide +kernel) rfl rfl dX10_putScript_57 ?_
      have hr := Option.some.inj h
      subst hr
      exact uu_vret rfl dX10_putScript_60
  | some ko1 =>
    refine cu_of rfl uk.1.1 (Nat.le_of_ble_eq_true rfl) ?_
    show GU _ _ _ _ _ _ _ _ _ 0 [(0, .ref (B + k0)), (1, .ref (B + ko1)), (2, .ref (B + k2))] []
    refine uu_aload_n dX10_putScript_0 rfl (List.mem_of_getElem? (i := 1) rfl) ?_
    refine uu_ifnull dX10_putScript_1 ?_
    refine uu_aload_n dX10_putScript_4 rfl (List.mem_of_getElem? (i := 1) rfl) ?_
    refine uu_aload_n dX10_putScript_5 rfl (List.mem_of_getElem? (i := 2) rfl) ?_
    refine uu_iconst (v := 1) dX10_putScript_6 (by decide) ?_
    obtain ⟨r13, e14, h⟩ := uu_ob h
    refine uu_cv (d1 := 3) (k := k2) (ci := 9) (T := TX9) (N := 6) (As := [.int 1]) (st := [.ref (B + ko1)]) (st' := [.ref (B + r13.2), .ref (B + ko1)]) (xc_X9_copyOf uk un hk2 e14) hk2.is (by decide) rfl kX9_copyOf lX10_48 sX9_copyOf (by decide) (Nat.le_of_ble_eq_true rfl) dX10_putScript_7 rfl ?_
    obtain ⟨g15, h⟩ := uu_grd h
    refine uu_putr (x := (some r13.2)) (ft := (.array .byte)) (ci := 1) (N := 6) fX10_52 ptX1 (Or.inl rfl) (by decide) g15 (by decide) (by decide) (by decide +kernel) rfl rfl dX10_putScript_10 ?_
    refine uu_goto (tgt := 60) dX10_putScript_13 (by decide) ?_
    have hr := Option.some.inj h
    subst hr
    exact uu_vret rfl dX10_putScript_60
abbrev mX10_addNote : hM := (yX10_addNote, cX10_addNote, 5, none)
theorem dX10_addNote_51 : decode cX10_addNote 51 = .ok (.new 9, 3) := by decide +kernel
theorem dX10_addNote_54 : decode cX10_addNote 54 = .ok (.dup, 1) := by decide +kernel
theorem dX10_addNote_55 : decode cX10_addNote 55 = .ok (.aload_n 1, 1) := by decide +kernel
theorem dX10_addNote_56 : decode cX10_addNote 56 = .ok (.aload_n 2, 1) := by decide +kernel
theorem dX10_addNote_57 : decode cX10_addNote 57 = .ok (.invokespecial 55, 3) := by decide +kernel
theorem dX10_addNote_60 : decode cX10_addNote 60 = .ok (.astore 4, 2) := by decide +kernel
theorem dX10_addNote_62 : decode cX10_addNote 62 = .ok (.aload 4, 2) := by decide +kernel
theorem dX10_addNote_64 : decode cX10_addNote 64 = .ok (.iload_n 3, 1) := by decide +kernel
theorem fX10_61 : h_fl RX10 61 1 5 RX1 TX1 6 := ⟨rfl, by decide, inX1, h_t6 164 rfl rfl⟩
theorem dX10_addNote_65 : decode cX10_addNote 65 = .ok (.putfield 61, 3) := by decide +kernel
theorem dX10_addNote_68 : decode cX10_addNote 68 = .ok (.aload_n 0, 1) := by decide +kernel
theorem dX10_addNote_69 : decode cX10_addNote 69 = .ok (.getfield 15, 3) := by decide +kernel
theorem dX10_addNote_72 : decode cX10_addNote 72 = .ok (.aload_n 0, 1) := by decide +kernel
theorem dX10_addNote_73 : decode cX10_addNote 73 = .ok (.getfield 58, 3) := by decide +kernel
theorem dX10_addNote_76 : decode cX10_addNote 76 = .ok (.aload 4, 2) := by decide +kernel
theorem dX10_addNote_78 : decode cX10_addNote 78 = .ok (.aastore, 1) := by decide +kernel
theorem dX10_addNote_79 : decode cX10_addNote 79 = .ok (.aload_n 0, 1) := by decide +kernel
theorem dX10_addNote_80 : decode cX10_addNote 80 = .ok (.dup, 1) := by decide +kernel
theorem dX10_addNote_81 : decode cX10_addNote 81 = .ok (.getfield 58, 3) := by decide +kernel
theorem dX10_addNote_84 : decode cX10_addNote 84 = .ok (.iconst 1, 1) := by decide +kernel
theorem dX10_addNote_85 : decode cX10_addNote 85 = .ok (.iadd, 1) := by decide +kernel
theorem dX10_addNote_86 : decode cX10_addNote 86 = .ok (.putfield 58, 3) := by decide +kernel
theorem dX10_addNote_89 : decode cX10_addNote 89 = .ok (.return_, 1) := by decide +kernel
theorem dX10_addNote_12 : decode cX10_addNote 12 = .ok (.iload 4, 2) := by decide +kernel
theorem dX10_addNote_14 : decode cX10_addNote 14 = .ok (.bipush 40, 2) := by decide +kernel
theorem dX10_addNote_16 : decode cX10_addNote 16 = .ok (.if_icmp .ge 25, 3) := by decide +kernel
theorem dX10_addNote_41 : decode cX10_addNote 41 = .ok (.aload_n 0, 1) := by decide +kernel
theorem dX10_addNote_42 : decode cX10_addNote 42 = .ok (.dup, 1) := by decide +kernel
theorem dX10_addNote_43 : decode cX10_addNote 43 = .ok (.getfield 58, 3) := by decide +kernel
theorem dX10_addNote_46 : decode cX10_addNote 46 = .ok (.iconst 1, 1) := by decide +kernel
theorem dX10_addNote_47 : decode cX10_addNote 47 = .ok (.isub, 1) := by decide +kernel
theorem dX10_addNote_48 : decode cX10_addNote 48 = .ok (.putfield 58, 3) := by decide +kernel
theorem dX10_addNote_19 : decode cX10_addNote 19 = .ok (.aload_n 0, 1) := by decide +kernel
theorem dX10_addNote_20 : decode cX10_addNote 20 = .ok (.getfield 15, 3) := by decide +kernel
theorem dX10_addNote_23 : decode cX10_addNote 23 = .ok (.iload 4, 2) := by decide +kernel
theorem dX10_addNote_25 : decode cX10_addNote 25 = .ok (.iconst 1, 1) := by decide +kernel
theorem dX10_addNote_26 : decode cX10_addNote 26 = .ok (.isub, 1) := by decide +kernel
theorem dX10_addNote_27 : decode cX10_addNote 27 = .ok (.aload_n 0, 1) := by decide +kernel
theorem dX10_addNote_28 : decode cX10_addNote 28 = .ok (.getfield 15, 3) := by decide +kernel
theorem dX10_addNote_31 : decode cX10_addNote 31 = .ok (.iload 4, 2) := by decide +kernel
theorem dX10_addNote_33 : decode cX10_addNote 33 = .ok (.aaload, 1) := by decide +kernel
theorem dX10_addNote_34 : decode cX10_addNote 34 = .ok (.aastore, 1) := by decide +kernel
theorem dX10_addNote_35 : decode cX10_addNote 35 = .ok (.iinc 4 1, 3) := by decide +kernel
theorem dX10_addNote_38 : decode cX10_addNote 38 = .ok (.goto (-26), 3) := by decide +kernel
theorem dX10_addNote_0 : decode cX10_addNote 0 = .ok (.aload_n 0, 1) := by decide +kernel
theorem dX10_addNote_1 : decode cX10_addNote 1 = .ok (.getfield 58, 3) := by decide +kernel
theorem dX10_addNote_4 : decode cX10_addNote 4 = .ok (.bipush 40, 2) := by decide +kernel
theorem dX10_addNote_6 : decode cX10_addNote 6 = .ok (.if_icmp .ne 45, 3) := by decide +kernel
theorem dX10_addNote_9 : decode cX10_addNote 9 = .ok (.iconst 1, 1) := by decide +kernel
theorem dX10_addNote_10 : decode cX10_addNote 10 = .ok (.istore 4, 2) := by decide +kernel
def fb_X10_addNote_51  (k0 : Nat) (k1 : Nat) (k2 : Nat) (x3 : Int32) (s : uS) : Option uS := (nent s).bind fun s1 => if ¬ k1 = 0 then ((fn_X1_init s.n k1 k2 s1).bind fun s4 => if uIs s4 s.n 1 then ((pput (wI s4 s.n 5 x3) (k0 + 2) ((wI s4 s.n 5 x3).I k0 4) s.n).bind fun s7 => some (wI s7 k0 4 ((s7.I k0 4) + 1))) else none) else none
set_option maxRecDepth 100000 in
set_option maxHeartbeats 4000000 in
theorem xb_X10_addNote_51 {l : Launch} {D : va_G} {A : Nat → ClassId} {B : Nat} {Z : State → Heap → Prop} {vF : Value} (uk : uK B Z vF) (un : uX A B Z)   {k0 : Nat} {k1 : Nat} {k2 : Nat} {x3 : Int32} {s : uS} {r : uS} (hk0 : uSo k0 10) (h : fb_X10_addNote_51  k0 k1 k2 x3 s = some r) : GU l D A B Z mX10_addNote 2 (r, none) s 51 [(0, .ref (B + k0)), (1, .ref (B + k1)), (2, .ref (B + k2)), (3, .int x3)] [] := by
  unfold fb_X10_addNote_51 at h
  obtain ⟨s1, e2, h⟩ := uu_ob h
  refine uu_newE e2 nX10_9 dX10_addNote_51 ?_
  refine uu_dup dX10_addNote_54 rfl ?_
  refine uu_aload_n dX10_addNote_55 rfl (List.mem_of_getElem? (i := 1) rfl) ?_
  refine uu_aload_n dX10_addNote_56 rfl (List.mem_of_getElem? (i := 2) rfl) ?_
  obtain ⟨g3, h⟩ := uu_grd h
  obtain ⟨s4, e5, h⟩ := uu_ob h
  refine uu_ci (d1 := 1) (k := s.n) (As := [.ref (B + k1), .ref (B + k2)]) (st := [.ref (B + s.n)]) (by have hc := xc_X1_init (l := l) (D := D) uk un  e5; rw [uad_ne g3] at hc; exact hc) rfl kX1_init lX10_55 sX1_init (by decide) (Nat.le_of_ble_eq_true rfl) dX10_addNote_57 ?_
  refine uu_astore dX10_addNote_60 (by decide) rfl ?_
  refine uu_aload dX10_addNote_62 (List.mem_of_getElem? (i := 0) rfl) ?_
  refine uu_iload_n dX10_addNote_64 rfl (List.mem_of_getElem? (i := 4) rfl) ?_
  obtain ⟨g6, h⟩ := uu_grd h
  refine uu_puti (ft := .int) (ci := 1) (N := 6) fX10_61 ptX1 (Or.inl rfl) (by decide) g6 (by decide) (by decide) (by decide +kernel) rfl rfl dX10_addNote_65 ?_
  refine uu_aload_n dX10_addNote_68 rfl (List.mem_of_getElem? (i := 1) rfl) ?_
  refine uu_getc (ci := 10) (N := 6) fX10_15 (by decide) hk0.is (by decide) (c := 2) (by decide) (k2 := k0 + 2) rfl dX10_addNote_69 ?_
  refine uu_aload_n dX10_addNote_72 rfl (List.mem_of_getElem? (i := 1) rfl) ?_
  refine uu_geti (ci := 10) (N := 6) fX10_58 (by decide) hk0.is (by decide) (by decide) dX10_addNote_73 ?_
  refine uu_aload dX10_addNote_76 (List.mem_of_getElem? (i := 0) rfl) ?_
  obtain ⟨s7, e8, h⟩ := uu_ob h
  refine uu_aast e8 dX10_addNote_78 ?_
  refine uu_aload_n dX10_addNote_79 rfl (List.mem_of_getElem? (i := 1) rfl) ?_
  refine uu_dup dX10_addNote_80 rfl ?_
  refine uu_geti (ci := 10) (N := 6) fX10_58 (by decide) hk0.is (by decide) (by decide) dX10_addNote_81 ?_
  refine uu_iconst (v := 1) dX10_addNote_84 (by decide) ?_
  refine uu_iadd dX10_addNote_85 ?_
  refine uu_puti (ft := .int) (ci := 10) (N := 6) fX10_58 ptX10 (Or.inl rfl) (by decide) hk0.is (by decide) (by decide) (by decide +kernel) rfl rfl dX10_addNote_86 ?_
  have hr := Option.some.inj h
  subst hr
  exact uu_vret rfl dX10_addNote_89
def fb_X10_addNote_12 (K12 : Nat → Nat → Nat → Int32 → Int32 → uS → Option uS) (k0 : Nat) (k1 : Nat) (k2 : Nat) (x3 : Int32) (x4 : Int32) (s : uS) : Option uS := if (40 : Int32) ≤ x4 then (fb_X10_addNote_51 k0 k1 k2 x3 (wI s k0 4 ((s.I k0 4) - 1))) else ((pgt 27 s (k0 + 2) x4).bind fun j2 => (pput s (k0 + 2) (x4 - 1) j2).bind fun s4 => K12 k0 k1 k2 x3 (x4 + 1) s4)
set_option maxRecDepth 100000 in
set_option maxHeartbeats 4000000 in
theorem xb_X10_addNote_12 {l : Launch} {D : va_G} {A : Nat → ClassId} {B : Nat} {Z : State → Heap → Prop} {vF : Value} (uk : uK B Z vF) (un : uX A B Z) {K12 : Nat → Nat → Nat → Int32 → Int32 → uS → Option uS} (hK12 : ∀ (k0 : Nat) (k1 : Nat) (k2 : Nat) (x3 : Int32) (x4 : Int32) (hk0 : uSo k0 10) (s : uS) (r : uS), K12 k0 k1 k2 x3 x4 s = some r → GU l D A B Z mX10_addNote 2 (r, none) s 12 [(0, .ref (B + k0)), (1, .ref (B + k1)), (2, .ref (B + k2)), (3, .int x3), (4, .int x4)] []) {k0 : Nat} {k1 : Nat} {k2 : Nat} {x3 : Int32} {x4 : Int32} {s : uS} {r : uS} (hk0 : uSo k0 10) (h : fb_X10_addNote_12 K12 k0 k1 k2 x3 x4 s = some r) : GU l D A B Z mX10_addNote 2 (r, none) s 12 [(0, .ref (B + k0)), (1, .ref (B + k1)), (2, .ref (B + k2)), (3, .int x3), (4, .int x4)] [] := by
  unfold fb_X10_addNote_12 at h
  refine uu_iload dX10_addNote_12 (List.mem_of_getElem? (i := 4) rfl) ?_
  refine uu_bipush (v := 40) dX10_addNote_14 (by decide) ?_
  refine uu_icmp_ge (tgt := 41) dX10_addNote_16 (by decide) (fun c1 => ?_) (fun c1 => ?_)
  · replace h := uu_pos c1 h
    refine uu_aload_n dX10_addNote_41 rfl (List.mem_of_getElem? (i := 0) rfl) ?_
    refine uu_dup dX10_addNote_42 rfl ?_
    refine uu_geti (ci := 10) (N := 6) fX10_58 (by decide) hk0.is (by decide) (by decide) dX10_addNote_43 ?_
    refine uu_iconst (v := 1) dX10_addNote_46 (by decide) ?_
    refine uu_isub dX10_addNote_47 ?_
    refine uu_puti (ft := .int) (ci := 10) (N := 6) fX10_58 ptX10 (Or.inl rfl) (by decide) hk0.is (by decide) (by decide) (by decide +kernel) rfl rfl dX10_addNote_48 ?_
    refine uu_lv [0, 1, 2, 3] (lv' := [(0, .ref (B + k0)), (1, .ref (B + k1)), (2, .ref (B + k2)), (3, .int x3)]) rfl ?_
    exact xb_X10_addNote_51 uk un hk0 h
  · replace h := uu_neg c1 h
    refine uu_aload_n dX10_addNote_19 rfl (List.mem_of_getElem? (i := 0) rfl) ?_
    refine uu_getc (ci := 10) (N := 6) fX10_15 (by decide) hk0.is (by decide) (c := 2) (by decide) (k2 := k0 + 2) rfl dX10_addNote_20 ?_
    refine uu_iload dX10_addNote_23 (List.mem_of_getElem? (i := 4) rfl) ?_
    refine uu_iconst (v := 1) dX10_addNote_25 (by decide) ?_
    refine uu_isub dX10_addNote_26 ?_
    refine uu_aload_n dX10_addNote_27 rfl (List.mem_of_getElem? (i := 0) rfl) ?_
    refine uu_getc (ci := 10) (N := 6) fX10_15 (by decide) hk0.is (by decide) (c := 2) (by decide) (k2 := k0 + 2) rfl dX10_addNote_28 ?_
    refine uu_iload dX10_addNote_31 (List.mem_of_getElem? (i := 4) rfl) ?_
    obtain ⟨j2, e3, h⟩ := uu_ob h
    refine uu_aald (t := 27) rfl (by decide) e3 dX10_addNote_33 ?_
    obtain ⟨s4, e5, h⟩ := uu_ob h
    refine uu_aast e5 dX10_addNote_34 ?_
    refine uu_iinc (v := x4 + 1) dX10_addNote_35 (k := 4) rfl rfl (by decide) rfl ?_
    refine uu_goto (tgt := 12) dX10_addNote_38 (by decide) ?_
    refine uu_lv [1, 2, 3, 4, 0] (lv' := [(0, .ref (B + k0)), (1, .ref (B + k1)), (2, .ref (B + k2)), (3, .int x3), (4, .int (x4 + 1))]) rfl ?_
    exact hK12 k0 k1 k2 x3 (x4 + 1) hk0 _ _ h
def fn_X10_addNote_12  : Nat → Nat → Nat → Nat → Int32 → Int32 → uS → Option uS
  | 0 => fun _ _ _ _ _ _ => none
  | n + 1 => fb_X10_addNote_12 (fn_X10_addNote_12  n)
set_option maxRecDepth 100000 in
set_option maxHeartbeats 4000000 in
theorem xn_X10_addNote_12 {l : Launch} {D : va_G} {A : Nat → ClassId} {B : Nat} {Z : State → Heap → Prop} {vF : Value} (uk : uK B Z vF) (un : uX A B Z)   : ∀ (n : Nat) (k0 : Nat) (k1 : Nat) (k2 : Nat) (x3 : Int32) (x4 : Int32) (hk0 : uSo k0 10) (s : uS) (r : uS), fn_X10_addNote_12  n k0 k1 k2 x3 x4 s = some r → GU l D A B Z mX10_addNote 2 (r, none) s 12 [(0, .ref (B + k0)), (1, .ref (B + k1)), (2, .ref (B + k2)), (3, .int x3), (4, .int x4)] [] := by
  intro n
  induction n with
  | zero => intro k0 k1 k2 x3 x4 hk0 s r h
            cases h
  | succ n ih => intro k0 k1 k2 x3 x4 hk0 s r h
                 exact xb_X10_addNote_12 uk un ih hk0 h
def fn_X10_addNote (k0 : Nat) (k1 : Nat) (k2 : Nat) (x3 : Int32) (s : uS) : Option uS := if (s.I k0 4) = 40 then (fn_X10_addNote_12 uFu k0 k1 k2 x3 1 s) else (fb_X10_addNote_51 k0 k1 k2 x3 s)
set_option maxRecDepth 100000 in
set_option maxHeartbeats 4000000 in
theorem xc_X10_addNote {l : Launch} {D : va_G} {A : Nat → ClassId} {B : Nat} {Z : State → Heap → Prop} {vF : Value} (uk : uK B Z vF) (un : uX A B Z) {k0 : Nat} {k1 : Nat} {k2 : Nat} {x3 : Int32} {s : uS} {r : uS} (hk0 : uSo k0 10) (h : fn_X10_addNote k0 k1 k2 x3 s = some r) : CU l D A B Z 2 mX10_addNote s [.ref (B + k0), .ref (B + k1), .ref (B + k2), .int x3] (r, none) := by
  unfold fn_X10_addNote at h
  refine cu_of rfl uk.1.1 (Nat.le_of_ble_eq_true rfl) ?_
  show GU _ _ _ _ _ _ _ _ _ 0 [(0, .ref (B + k0)), (1, .ref (B + k1)), (2, .ref (B + k2)), (3, .int x3)] []
  refine uu_aload_n dX10_addNote_0 rfl (List.mem_of_getElem? (i := 0) rfl) ?_
  refine uu_geti (ci := 10) (N := 6) fX10_58 (by decide) hk0.is (by decide) (by decide) dX10_addNote_1 ?_
  refine uu_bipush (v := 40) dX10_addNote_4 (by decide) ?_
  refine uu_icmp_ne (tgt := 51) dX10_addNote_6 (by decide) (fun c1 => ?_) (fun c1 => ?_)
  · replace h := uu_neg c1 h
    exact xb_X10_addNote_51 uk un hk0 h
  · replace h := uu_pos c1 h
    refine uu_iconst (v := 1) dX10_addNote_9 (by decide) ?_
    refine uu_istore dX10_addNote_10 (by decide) rfl ?_
    refine uu_lv [1, 2, 3, 4, 0] (lv' := [(0, .ref (B + k0)), (1, .ref (B + k1)), (2, .ref (B + k2)), (3, .int x3), (4, .int 1)]) rfl ?_
    exact xn_X10_addNote_12 uk un  _ _ _ _ _ _ hk0 _ _ h
abbrev mX11_storePlan : hM := (yX11_storePlan, cX11_storePlan, 7, none)
theorem dX11_storePlan_156 : decode cX11_storePlan 156 = .ok (.iload 5, 2) := by decide +kernel
theorem dX11_storePlan_158 : decode cX11_storePlan 158 = .ok (.aload_n 0, 1) := by decide +kernel
theorem dX11_storePlan_159 : decode cX11_storePlan 159 = .ok (.getfield 84, 3) := by decide +kernel
theorem dX11_storePlan_162 : decode cX11_storePlan 162 = .ok (.getfield 279, 3) := by decide +kernel
theorem dX11_storePlan_165 : decode cX11_storePlan 165 = .ok (.if_icmp .ge 36, 3) := by decide +kernel
theorem dX11_storePlan_201 : decode cX11_storePlan 201 = .ok (.aload_n 0, 1) := by decide +kernel
theorem dX11_storePlan_202 : decode cX11_storePlan 202 = .ok (.getfield 84, 3) := by decide +kernel
theorem dX11_storePlan_205 : decode cX11_storePlan 205 = .ok (.getfield 282, 3) := by decide +kernel
theorem dX11_storePlan_208 : decode cX11_storePlan 208 = .ok (.ifCond .eq 86, 3) := by decide +kernel
theorem dX11_storePlan_294 : decode cX11_storePlan 294 = .ok (.return_, 1) := by decide +kernel
theorem dX11_storePlan_211 : decode cX11_storePlan 211 = .ok (.aload_n 0, 1) := by decide +kernel
theorem dX11_storePlan_212 : decode cX11_storePlan 212 = .ok (.getfield 56, 3) := by decide +kernel
theorem fX11_334 : h_fl RX11 334 0 0 RX0 TX0 12 := ⟨rfl, by decide, inX0, h_t2 167 rfl rfl⟩
theorem dX11_storePlan_215 : decode cX11_storePlan 215 = .ok (.getfield 334, 3) := by decide +kernel
theorem dX11_storePlan_218 : decode cX11_storePlan 218 = .ok (.iconst 0, 1) := by decide +kernel
theorem lX11_331 : Cond.methodLink RX11 331 mX9_copyOf.1 ∈ lw_g := h_t6 183 rfl rfl
theorem dX11_storePlan_219 : decode cX11_storePlan 219 = .ok (.invokevirtual 331, 3) := by decide +kernel
theorem dX11_storePlan_222 : decode cX11_storePlan 222 = .ok (.astore 5, 2) := by decide +kernel
theorem dX11_storePlan_224 : decode cX11_storePlan 224 = .ok (.aload_n 0, 1) := by decide +kernel
theorem nX11_31 : h_nl RX11 31 1 RX1 TX1 6 fsX1 := ⟨rfl, inX1, ⟨tyX1, tyX1_ok, by decide +kernel⟩, h_t1 36 rfl rfl, h_t6 147 rfl rfl, h_t1 21 rfl rfl⟩
theorem dX11_storePlan_225 : decode cX11_storePlan 225 = .ok (.new 31, 3) := by decide +kernel
theorem dX11_storePlan_228 : decode cX11_storePlan 228 = .ok (.dup, 1) := by decide +kernel
theorem dX11_storePlan_229 : decode cX11_storePlan 229 = .ok (.aload 5, 2) := by decide +kernel
theorem dX11_storePlan_231 : decode cX11_storePlan 231 = .ok (.aload_n 0, 1) := by decide +kernel
theorem dX11_storePlan_232 : decode cX11_storePlan 232 = .ok (.getfield 84, 3) := by decide +kernel
theorem dX11_storePlan_235 : decode cX11_storePlan 235 = .ok (.getfield 288, 3) := by decide +kernel
theorem dX11_storePlan_238 : decode cX11_storePlan 238 = .ok (.getfield 188, 3) := by decide +kernel
theorem dX11_storePlan_241 : decode cX11_storePlan 241 = .ok (.aload_n 0, 1) := by decide +kernel
theorem dX11_storePlan_242 : decode cX11_storePlan 242 = .ok (.getfield 84, 3) := by decide +kernel
theorem dX11_storePlan_245 : decode cX11_storePlan 245 = .ok (.getfield 288, 3) := by decide +kernel
theorem dX11_storePlan_248 : decode cX11_storePlan 248 = .ok (.getfield 291, 3) := by decide +kernel
theorem kJ7_copyOf_9075b : h_ml mJ7_copyOf_9075b 2 := ⟨h_t6 137 rfl rfl, h_t1 20 rfl rfl, ⟨by decide, by decide, by decide +kernel⟩, by decide⟩
theorem lX11_306 : Cond.methodLink RX11 306 mJ7_copyOf_9075b.1 ∈ lw_g := h_t6 135 rfl rfl
theorem sJ7_copyOf_9075b : Cond.static mJ7_copyOf_9075b.1 ∈ lw_g := h_t6 136 rfl rfl
theorem dX11_storePlan_251 : decode cX11_storePlan 251 = .ok (.invokestatic 306, 3) := by decide +kernel
theorem lX11_315 : Cond.methodLink RX11 315 mX1_init.1 ∈ lw_g := h_t6 150 rfl rfl
theorem dX11_storePlan_254 : decode cX11_storePlan 254 = .ok (.invokespecial 315, 3) := by decide +kernel
theorem kX11_storeMail : h_ml mX11_storeMail 1 := ⟨h_t6 182 rfl rfl, h_t1 1 rfl rfl, ⟨by decide, by decide, by decide +kernel⟩, by decide⟩
theorem lX11_324 : Cond.methodLink RX11 324 mX11_storeMail.1 ∈ lw_g := h_t6 179 rfl rfl
theorem sX11_storeMail : Cond.instanceMethod mX11_storeMail.1 ∈ lw_g ∧ Cond.selects mX11_storeMail.1.cls mX11_storeMail.1 mX11_storeMail.1 ∈ lw_g := ⟨h_t6 181 rfl rfl, h_ins 71 rfl⟩
theorem dX11_storePlan_257 : decode cX11_storePlan 257 = .ok (.invokevirtual 324, 3) := by decide +kernel
theorem dX11_storePlan_260 : decode cX11_storePlan 260 = .ok (.aload_n 0, 1) := by decide +kernel
theorem dX11_storePlan_261 : decode cX11_storePlan 261 = .ok (.getfield 84, 3) := by decide +kernel
theorem fX11_337 : h_fl RX11 337 7 9 RX7 TX7 20 := ⟨rfl, by decide, inX7, h_t3 27 rfl rfl⟩
theorem dX11_storePlan_264 : decode cX11_storePlan 264 = .ok (.getfield 337, 3) := by decide +kernel
theorem dX11_storePlan_267 : decode cX11_storePlan 267 = .ok (.ifnull 27, 3) := by decide +kernel
theorem dX11_storePlan_270 : decode cX11_storePlan 270 = .ok (.aload_n 2, 1) := by decide +kernel
theorem dX11_storePlan_271 : decode cX11_storePlan 271 = .ok (.aload 5, 2) := by decide +kernel
theorem dX11_storePlan_273 : decode cX11_storePlan 273 = .ok (.aload_n 3, 1) := by decide +kernel
theorem dX11_storePlan_274 : decode cX11_storePlan 274 = .ok (.aload_n 0, 1) := by decide +kernel
theorem dX11_storePlan_275 : decode cX11_storePlan 275 = .ok (.getfield 84, 3) := by decide +kernel
theorem dX11_storePlan_278 : decode cX11_storePlan 278 = .ok (.getfield 337, 3) := by decide +kernel
theorem lX11_341 : Cond.methodLink RX11 341 mX3_handle.1 ∈ lw_g := h_t6 196 rfl rfl
theorem dX11_storePlan_281 : decode cX11_storePlan 281 = .ok (.invokevirtual 341, 3) := by decide +kernel
theorem dX11_storePlan_284 : decode cX11_storePlan 284 = .ok (.invokevirtual 331, 3) := by decide +kernel
theorem dX11_storePlan_287 : decode cX11_storePlan 287 = .ok (.aload_n 0, 1) := by decide +kernel
theorem dX11_storePlan_288 : decode cX11_storePlan 288 = .ok (.getfield 137, 3) := by decide +kernel
theorem kX10_addNote : h_ml mX10_addNote 3 := ⟨h_t6 200 rfl rfl, h_t1 8 rfl rfl, ⟨by decide, by decide, by decide +kernel⟩, by decide⟩
theorem lX11_346 : Cond.methodLink RX11 346 mX10_addNote.1 ∈ lw_g := h_t6 197 rfl rfl
theorem sX10_addNote : Cond.instanceMethod mX10_addNote.1 ∈ lw_g ∧ Cond.selects mX10_addNote.1.cls mX10_addNote.1 mX10_addNote.1 ∈ lw_g := ⟨h_t6 198 rfl rfl, h_t6 199 rfl rfl⟩
theorem dX11_storePlan_291 : decode cX11_storePlan 291 = .ok (.invokevirtual 346, 3) := by decide +kernel
theorem dX11_storePlan_168 : decode cX11_storePlan 168 = .ok (.aload_n 0, 1) := by decide +kernel
theorem dX11_storePlan_169 : decode cX11_storePlan 169 = .ok (.new 31, 3) := by decide +kernel
theorem dX11_storePlan_172 : decode cX11_storePlan 172 = .ok (.dup, 1) := by decide +kernel
theorem dX11_storePlan_173 : decode cX11_storePlan 173 = .ok (.aload_n 3, 1) := by decide +kernel
theorem dX11_storePlan_174 : decode cX11_storePlan 174 = .ok (.aload_n 0, 1) := by decide +kernel
theorem dX11_storePlan_175 : decode cX11_storePlan 175 = .ok (.getfield 84, 3) := by decide +kernel
theorem fX11_328 : h_fl RX11 328 7 3 RX7 TX7 20 := ⟨rfl, by decide, inX7, h_t3 15 rfl rfl⟩
theorem dX11_storePlan_178 : decode cX11_storePlan 178 = .ok (.getfield 328, 3) := by decide +kernel
theorem dX11_storePlan_181 : decode cX11_storePlan 181 = .ok (.iload 5, 2) := by decide +kernel
theorem dX11_storePlan_183 : decode cX11_storePlan 183 = .ok (.iaload, 1) := by decide +kernel
theorem dX11_storePlan_184 : decode cX11_storePlan 184 = .ok (.invokevirtual 331, 3) := by decide +kernel
theorem dX11_storePlan_187 : decode cX11_storePlan 187 = .ok (.aload 4, 2) := by decide +kernel
theorem dX11_storePlan_189 : decode cX11_storePlan 189 = .ok (.invokespecial 315, 3) := by decide +kernel
theorem dX11_storePlan_192 : decode cX11_storePlan 192 = .ok (.invokevirtual 324, 3) := by decide +kernel
theorem dX11_storePlan_195 : decode cX11_storePlan 195 = .ok (.iinc 5 1, 3) := by decide +kernel
theorem dX11_storePlan_198 : decode cX11_storePlan 198 = .ok (.goto (-42), 3) := by decide +kernel
theorem dX11_storePlan_79 : decode cX11_storePlan 79 = .ok (.iload 5, 2) := by decide +kernel
theorem dX11_storePlan_81 : decode cX11_storePlan 81 = .ok (.aload_n 0, 1) := by decide +kernel
theorem dX11_storePlan_82 : decode cX11_storePlan 82 = .ok (.getfield 84, 3) := by decide +kernel
theorem dX11_storePlan_85 : decode cX11_storePlan 85 = .ok (.getfield 276, 3) := by decide +kernel
theorem dX11_storePlan_88 : decode cX11_storePlan 88 = .ok (.if_icmp .ge 65, 3) := by decide +kernel
theorem dX11_storePlan_153 : decode cX11_storePlan 153 = .ok (.iconst 0, 1) := by decide +kernel
theorem dX11_storePlan_154 : decode cX11_storePlan 154 = .ok (.istore 5, 2) := by decide +kernel
theorem dX11_storePlan_91 : decode cX11_storePlan 91 = .ok (.new 31, 3) := by decide +kernel
theorem dX11_storePlan_94 : decode cX11_storePlan 94 = .ok (.dup, 1) := by decide +kernel
theorem gsX11_312 : Cond.fieldLink RX11 312 "SortedMail$Entry" "NO_LABEL" "[B" ∈ lw_g := h_t6 148 rfl rfl
theorem dX11_storePlan_95 : decode cX11_storePlan 95 = .ok (.getstatic 312, 3) := by decide +kernel
theorem dX11_storePlan_98 : decode cX11_storePlan 98 = .ok (.aload 4, 2) := by decide +kernel
theorem dX11_storePlan_100 : decode cX11_storePlan 100 = .ok (.invokespecial 315, 3) := by decide +kernel
theorem dX11_storePlan_103 : decode cX11_storePlan 103 = .ok (.astore 6, 2) := by decide +kernel
theorem dX11_storePlan_105 : decode cX11_storePlan 105 = .ok (.aload 6, 2) := by decide +kernel
theorem dX11_storePlan_107 : decode cX11_storePlan 107 = .ok (.iload_n 1, 1) := by decide +kernel
theorem dX11_storePlan_108 : decode cX11_storePlan 108 = .ok (.putfield 210, 3) := by decide +kernel
theorem dX11_storePlan_111 : decode cX11_storePlan 111 = .ok (.aload 6, 2) := by decide +kernel
theorem dX11_storePlan_113 : decode cX11_storePlan 113 = .ok (.aload_n 0, 1) := by decide +kernel
theorem dX11_storePlan_114 : decode cX11_storePlan 114 = .ok (.getfield 84, 3) := by decide +kernel
theorem fX11_318 : h_fl RX11 318 7 0 RX7 TX7 20 := ⟨rfl, by decide, inX7, h_t3 9 rfl rfl⟩
theorem dX11_storePlan_117 : decode cX11_storePlan 117 = .ok (.getfield 318, 3) := by decide +kernel
theorem dX11_storePlan_120 : decode cX11_storePlan 120 = .ok (.iload 5, 2) := by decide +kernel
theorem dX11_storePlan_122 : decode cX11_storePlan 122 = .ok (.iaload, 1) := by decide +kernel
theorem dX11_storePlan_123 : decode cX11_storePlan 123 = .ok (.putfield 213, 3) := by decide +kernel
theorem dX11_storePlan_126 : decode cX11_storePlan 126 = .ok (.aload 6, 2) := by decide +kernel
theorem dX11_storePlan_128 : decode cX11_storePlan 128 = .ok (.aload_n 0, 1) := by decide +kernel
theorem dX11_storePlan_129 : decode cX11_storePlan 129 = .ok (.getfield 84, 3) := by decide +kernel
theorem fX11_321 : h_fl RX11 321 7 1 RX7 TX7 20 := ⟨rfl, by decide, inX7, h_t3 11 rfl rfl⟩
theorem dX11_storePlan_132 : decode cX11_storePlan 132 = .ok (.getfield 321, 3) := by decide +kernel
theorem dX11_storePlan_135 : decode cX11_storePlan 135 = .ok (.iload 5, 2) := by decide +kernel
theorem dX11_storePlan_137 : decode cX11_storePlan 137 = .ok (.iaload, 1) := by decide +kernel
theorem dX11_storePlan_138 : decode cX11_storePlan 138 = .ok (.putfield 164, 3) := by decide +kernel
theorem dX11_storePlan_141 : decode cX11_storePlan 141 = .ok (.aload_n 0, 1) := by decide +kernel
theorem dX11_storePlan_142 : decode cX11_storePlan 142 = .ok (.aload 6, 2) := by decide +kernel
theorem dX11_storePlan_144 : decode cX11_storePlan 144 = .ok (.invokevirtual 324, 3) := by decide +kernel
theorem dX11_storePlan_147 : decode cX11_storePlan 147 = .ok (.iinc 5 1, 3) := by decide +kernel
theorem dX11_storePlan_150 : decode cX11_storePlan 150 = .ok (.goto (-71), 3) := by decide +kernel
theorem dX11_storePlan_21 : decode cX11_storePlan 21 = .ok (.iload 4, 2) := by decide +kernel
theorem dX11_storePlan_23 : decode cX11_storePlan 23 = .ok (.aload_n 0, 1) := by decide +kernel
theorem dX11_storePlan_24 : decode cX11_storePlan 24 = .ok (.getfield 84, 3) := by decide +kernel
theorem fX11_295 : h_fl RX11 295 7 6 RX7 TX7 20 := ⟨rfl, by decide, inX7, h_t3 21 rfl rfl⟩
theorem dX11_storePlan_27 : decode cX11_storePlan 27 = .ok (.getfield 295, 3) := by decide +kernel
theorem dX11_storePlan_30 : decode cX11_storePlan 30 = .ok (.if_icmp .ge 27, 3) := by decide +kernel
theorem dX11_storePlan_57 : decode cX11_storePlan 57 = .ok (.aload_n 0, 1) := by decide +kernel
theorem dX11_storePlan_58 : decode cX11_storePlan 58 = .ok (.getfield 56, 3) := by decide +kernel
theorem fX11_305 : h_fl RX11 305 0 2 RX0 TX0 12 := ⟨rfl, by decide, inX0, h_t2 173 rfl rfl⟩
theorem dX11_storePlan_61 : decode cX11_storePlan 61 = .ok (.getfield 305, 3) := by decide +kernel
theorem dX11_storePlan_64 : decode cX11_storePlan 64 = .ok (.aload_n 0, 1) := by decide +kernel
theorem dX11_storePlan_65 : decode cX11_storePlan 65 = .ok (.getfield 56, 3) := by decide +kernel
theorem dX11_storePlan_68 : decode cX11_storePlan 68 = .ok (.getfield 285, 3) := by decide +kernel
theorem dX11_storePlan_71 : decode cX11_storePlan 71 = .ok (.invokestatic 306, 3) := by decide +kernel
theorem dX11_storePlan_74 : decode cX11_storePlan 74 = .ok (.astore 4, 2) := by decide +kernel
theorem dX11_storePlan_76 : decode cX11_storePlan 76 = .ok (.iconst 0, 1) := by decide +kernel
theorem dX11_storePlan_77 : decode cX11_storePlan 77 = .ok (.istore 5, 2) := by decide +kernel
theorem dX11_storePlan_33 : decode cX11_storePlan 33 = .ok (.aload_n 2, 1) := by decide +kernel
theorem dX11_storePlan_34 : decode cX11_storePlan 34 = .ok (.getfield 176, 3) := by decide +kernel
theorem dX11_storePlan_37 : decode cX11_storePlan 37 = .ok (.aload_n 3, 1) := by decide +kernel
theorem dX11_storePlan_38 : decode cX11_storePlan 38 = .ok (.aload_n 0, 1) := by decide +kernel
theorem dX11_storePlan_39 : decode cX11_storePlan 39 = .ok (.getfield 84, 3) := by decide +kernel
theorem fX11_298 : h_fl RX11 298 7 2 RX7 TX7 20 := ⟨rfl, by decide, inX7, h_t3 13 rfl rfl⟩
theorem dX11_storePlan_42 : decode cX11_storePlan 42 = .ok (.getfield 298, 3) := by decide +kernel
theorem dX11_storePlan_45 : decode cX11_storePlan 45 = .ok (.iload 4, 2) := by decide +kernel
theorem dX11_storePlan_47 : decode cX11_storePlan 47 = .ok (.iaload, 1) := by decide +kernel
theorem lX11_301 : Cond.methodLink RX11 301 mX9_addFrom.1 ∈ lw_g := h_t6 134 rfl rfl
theorem dX11_storePlan_48 : decode cX11_storePlan 48 = .ok (.invokevirtual 301, 3) := by decide +kernel
theorem dX11_storePlan_51 : decode cX11_storePlan 51 = .ok (.iinc 4 1, 3) := by decide +kernel
theorem dX11_storePlan_54 : decode cX11_storePlan 54 = .ok (.goto (-33), 3) := by decide +kernel
theorem dX11_storePlan_0 : decode cX11_storePlan 0 = .ok (.aload_n 0, 1) := by decide +kernel
theorem dX11_storePlan_1 : decode cX11_storePlan 1 = .ok (.getfield 27, 3) := by decide +kernel
theorem dX11_storePlan_4 : decode cX11_storePlan 4 = .ok (.iload_n 1, 1) := by decide +kernel
theorem dX11_storePlan_5 : decode cX11_storePlan 5 = .ok (.aaload, 1) := by decide +kernel
theorem dX11_storePlan_6 : decode cX11_storePlan 6 = .ok (.astore_n 2, 1) := by decide +kernel
theorem dX11_storePlan_7 : decode cX11_storePlan 7 = .ok (.aload_n 0, 1) := by decide +kernel
theorem dX11_storePlan_8 : decode cX11_storePlan 8 = .ok (.getfield 40, 3) := by decide +kernel
theorem dX11_storePlan_11 : decode cX11_storePlan 11 = .ok (.getfield 62, 3) := by decide +kernel
theorem dX11_storePlan_14 : decode cX11_storePlan 14 = .ok (.getfield 66, 3) := by decide +kernel
theorem dX11_storePlan_17 : decode cX11_storePlan 17 = .ok (.astore_n 3, 1) := by decide +kernel
theorem dX11_storePlan_18 : decode cX11_storePlan 18 = .ok (.iconst 0, 1) := by decide +kernel
theorem dX11_storePlan_19 : decode cX11_storePlan 19 = .ok (.istore 4, 2) := by decide +kernel
def fb_X11_storePlan_156 (K156 : Nat → Nat → Int32 → uS → Option uS) (k2 : Nat) (k4 : Nat) (x5 : Int32) (s : uS) : Option uS := if (s.I 1070 7) ≤ x5 then (if (s.I 1070 8) = 0 then (some s) else ((fn_X9_copyOf 1043 0 s).bind fun r3 => (nent r3.1).bind fun s5 => (fn_J7_copyOf_9075b 1076 (s5.I 1075 5) s5).bind fun r7 => if ¬ r3.2 = 0 then ((fn_X1_init r3.1.n r3.2 r7.2 r7.1).bind fun s10 => (fn_X11_storeMail (some r3.1.n) s10).bind fun s12 => (s12.R 1070 9).elim (some s12) (fun j14 => if uSo j14 3 then ((s12.R 1070 9).elim (none) (fun j15 => if uSo j15 3 then ((fn_X3_handle j15 s12).bind fun v16 => (fn_X9_copyOf 8 v16 s12).bind fun r18 => (fn_X10_addNote k2 r3.2 r18.2 (r18.1.I 0 13) r18.1).bind fun s20 => some s20) else none)) else none)) else none)) else ((nent s).bind fun s22 => (iget 20 s22 1074 x5).bind fun v24 => (fn_X9_copyOf 8 v24 s22).bind fun r26 => if ¬ r26.2 = 0 then ((fn_X1_init s.n r26.2 k4 r26.1).bind fun s29 => (fn_X11_storeMail (some s.n) s29).bind fun s31 => K156 k2 k4 (x5 + 1) s31) else none)
set_option maxRecDepth 100000 in
set_option maxHeartbeats 4000000 in
theorem xb_X11_storePlan_156 {l : Launch} {D : va_G} {A : Nat → ClassId} {B : Nat} {Z : State → Heap → Prop} {vF : Value} (uk : uK B Z vF) (un : uX A B Z) {K156 : Nat → Nat → Int32 → uS → Option uS} (hK156 : ∀ (k2 : Nat) (k4 : Nat) (x5 : Int32) (hk2 : uSo k2 10) (s : uS) (r : uS), K156 k2 k4 x5 s = some r → GU l D A B Z mX11_storePlan 4 (r, none) s 156 [(0, .ref (B + 0)), (2, .ref (B + k2)), (3, .ref (B + 8)), (4, .ref (B + k4)), (5, .int x5)] []) {k2 : Nat} {k4 : Nat} {x5 : Int32} {s : uS} {r : uS} (hk2 : uSo k2 10) (h : fb_X11_storePlan_156 K156 k2 k4 x5 s = some r) : GU l D A B Z mX11_storePlan 4 (r, none) s 156 [(0, .ref (B + 0)), (2, .ref (B + k2)), (3, .ref (B + 8)), (4, .ref (B + k4)), (5, .int x5)] [] := by
  unfold fb_X11_storePlan_156 at h
  refine uu_iload dX11_storePlan_156 (List.mem_of_getElem? (i := 4) rfl) ?_
  refine uu_aload_n dX11_storePlan_158 rfl (List.mem_of_getElem? (i := 0) rfl) ?_
  refine uu_geta (ci := 11) (N := 17) fX11_84 (by decide) so_0.is (by decide) (c := 1070) (by decide) dX11_storePlan_159 ?_
  refine uu_geti (ci := 7) (N := 20) fX11_279 (by decide) so_1070.is (by decide) (by decide) dX11_storePlan_162 ?_
  refine uu_icmp_ge (tgt := 201) dX11_storePlan_165 (by decide) (fun c1 => ?_) (fun c1 => ?_)
  · replace h := uu_pos c1 h
    refine uu_aload_n dX11_storePlan_201 rfl (List.mem_of_getElem? (i := 0) rfl) ?_
    refine uu_geta (ci := 11) (N := 17) fX11_84 (by decide) so_0.is (by decide) (c := 1070) (by decide) dX11_storePlan_202 ?_
    refine uu_geti (ci := 7) (N := 20) fX11_282 (by decide) so_1070.is (by decide) (by decide) dX11_storePlan_205 ?_
    refine uu_if_eq (tgt := 294) dX11_storePlan_208 (by decide) (fun c2 => ?_) (fun c2 => ?_)
    · replace h := uu_pos c2 h
      have hr := Option.some.inj h
      subst hr
      exact uu_vret rfl dX11_storePlan_294
    · replace h := uu_neg c2 h
      refine uu_aload_n dX11_storePlan_211 rfl (List.mem_of_getElem? (i := 0) rfl) ?_
      refine uu_geta (ci := 11) (N := 17) fX11_56 (by decide) so_0.is (by decide) (c := 1042) (by decide) dX11_storePlan_212 ?_
      refine uu_geta (ci := 0) (N := 12) fX11_334 (by decide) so_1042.is (by decide) (c := 1043) (by decide) dX11_storePlan_215 ?_
      refine uu_iconst (v := 0) dX11_storePlan_218 (by decide) ?_
      obtain ⟨r3, e4, h⟩ := uu_ob h
      refine uu_cv (d1 := 3) (k := 1043) (ci := 9) (T := TX9) (N := 6) (As := [.int 0]) (st := []) (st' := [.ref (B + r3.2)]) (xc_X9_copyOf uk un so_1043 e4) so_1043.is (by decide) rfl kX9_copyOf lX11_331 sX9_copyOf (by decide) (Nat.le_of_ble_eq_true rfl) dX11_storePlan_219 rfl ?_
      refine uu_astore dX11_storePlan_222 (by decide) rfl ?_
      refine uu_aload_n dX11_storePlan_224 rfl (List.mem_of_getElem? (i := 1) rfl) ?_
      obtain ⟨s5, e6, h⟩ := uu_ob h
      refine uu_newE e6 nX11_31 dX11_storePlan_225 ?_
      refine uu_dup dX11_storePlan_228 rfl ?_
      refine uu_aload dX11_storePlan_229 (List.mem_of_getElem? (i := 0) rfl) ?_
      refine uu_aload_n dX11_storePlan_231 rfl (List.mem_of_getElem? (i := 1) rfl) ?_
      refine uu_geta (ci := 11) (N := 17) fX11_84 (by decide) so_0.is (by decide) (c := 1070) (by decide) dX11_storePlan_232 ?_
      refine uu_geta (ci := 7) (N := 20) fX11_288 (by decide) so_1070.is (by decide) (c := 1075) (by decide) dX11_storePlan_235 ?_
      refine uu_getc (ci := 9) (N := 6) fX11_188 (by decide) so_1075.is (by decide) (c := 1) (by decide) (k2 := 1076) rfl dX11_storePlan_238 ?_
      refine uu_aload_n dX11_storePlan_241 rfl (List.mem_of_getElem? (i := 1) rfl) ?_
      refine uu_geta (ci := 11) (N := 17) fX11_84 (by decide) so_0.is (by decide) (c := 1070) (by decide) dX11_storePlan_242 ?_
      refine uu_geta (ci := 7) (N := 20) fX11_288 (by decide) so_1070.is (by decide) (c := 1075) (by decide) dX11_storePlan_245 ?_
      refine uu_geti (ci := 9) (N := 6) fX11_291 (by decide) so_1075.is (by decide) (by decide) dX11_storePlan_248 ?_
      obtain ⟨r7, e8, h⟩ := uu_ob h
      refine uu_cs (d1 := 1) (As := [.ref (B + 1076), .int (s5.I 1075 5)]) (st := [.ref (B + r3.2), .ref (B + r3.1.n), .ref (B + r3.1.n), .ref (B + 0)]) (st' := [.ref (B + r7.2), .ref (B + r3.2), .ref (B + r3.1.n), .ref (B + r3.1.n), .ref (B + 0)]) (xc_J7_copyOf_9075b uk un  e8) kJ7_copyOf_9075b lX11_306 sJ7_copyOf_9075b (by decide) (Nat.le_of_ble_eq_true rfl) dX11_storePlan_251 rfl ?_
      obtain ⟨g9, h⟩ := uu_grd h
      obtain ⟨s10, e11, h⟩ := uu_ob h
      refine uu_ci (d1 := 1) (k := r3.1.n) (As := [.ref (B + r3.2), .ref (B + r7.2)]) (st := [.ref (B + r3.1.n), .ref (B + 0)]) (by have hc := xc_X1_init (l := l) (D := D) uk un  e11; rw [uad_ne g9] at hc; exact hc) rfl kX1_init lX11_315 sX1_init (by decide) (Nat.le_of_ble_eq_true rfl) dX11_storePlan_254 ?_
      obtain ⟨s12, e13, h⟩ := uu_ob h
      refine uu_cv (d1 := 0) (k := 0) (ci := 11) (T := TX11) (N := 17) (As := [.ref (B + r3.1.n)]) (st := []) (st' := []) (xc_X11_storeMail uk  e13) so_0.is (by decide) rfl kX11_storeMail lX11_324 sX11_storeMail (by decide) (Nat.le_of_ble_eq_true rfl) dX11_storePlan_257 rfl ?_
      refine uu_aload_n dX11_storePlan_260 rfl (List.mem_of_getElem? (i := 1) rfl) ?_
      refine uu_geta (ci := 11) (N := 17) fX11_84 (by decide) so_0.is (by decide) (c := 1070) (by decide) dX11_storePlan_261 ?_
      refine uu_getv (ci := 7) (N := 20) fX11_337 (by decide) so_1070.is (by decide) (by decide) dX11_storePlan_264 ?_
      rcases uu_oe h with ⟨eo14, h⟩ | ⟨j14, eo14, h⟩
      · rw [eo14]
        refine uu_ifnullN (tgt := 294) dX11_storePlan_267 (by decide) ?_
        have hr := Option.some.inj h
        subst hr
        exact uu_vret rfl dX11_storePlan_294
      · rw [eo14]
        obtain ⟨hj14, h⟩ := uu_grd h
        refine uu_ifnull dX11_storePlan_267 ?_
        refine uu_aload_n dX11_storePlan_270 rfl (List.mem_of_getElem? (i := 2) rfl) ?_
        refine uu_aload dX11_storePlan_271 (List.mem_of_getElem? (i := 0) rfl) ?_
        refine uu_aload_n dX11_storePlan_273 rfl (List.mem_of_getElem? (i := 3) rfl) ?_
        refine uu_aload_n dX11_storePlan_274 rfl (List.mem_of_getElem? (i := 1) rfl) ?_
        refine uu_geta (ci := 11) (N := 17) fX11_84 (by decide) so_0.is (by decide) (c := 1070) (by decide) dX11_storePlan_275 ?_
        refine uu_getv (ci := 7) (N := 20) fX11_337 (by decide) so_1070.is (by decide) (by decide) dX11_storePlan_278 ?_
        rcases uu_oe h with ⟨eo15, h⟩ | ⟨j15, eo15, h⟩
        · rw [eo15]
          cases h
        · rw [eo15]
          obtain ⟨hj15, h⟩ := uu_grd h
          obtain ⟨v16, e17, h⟩ := uu_ob h
          refine uu_cv (d1 := 1) (k := j15) (ci := 3) (T := TX3) (N := 15) (As := []) (st := [.ref (B + 8), .ref (B + r3.2), .ref (B + k2)]) (st' := [.int v16, .ref (B + 8), .ref (B + r3.2), .ref (B + k2)]) (xc_X3_handle uk hj15 e17) hj15.is (by decide) rfl kX3_handle lX11_341 sX3_handle (by decide) (Nat.le_of_ble_eq_true rfl) dX11_storePlan_281 rfl ?_
          obtain ⟨r18, e19, h⟩ := uu_ob h
          refine uu_cv (d1 := 3) (k := 8) (ci := 9) (T := TX9) (N := 6) (As := [.int v16]) (st := [.ref (B + r3.2), .ref (B + k2)]) (st' := [.ref (B + r18.2), .ref (B + r3.2), .ref (B + k2)]) (xc_X9_copyOf uk un so_8 e19) so_8.is (by decide) rfl kX9_copyOf lX11_331 sX9_copyOf (by decide) (Nat.le_of_ble_eq_true rfl) dX11_storePlan_284 rfl ?_
          refine uu_aload_n dX11_storePlan_287 rfl (List.mem_of_getElem? (i := 1) rfl) ?_
          refine uu_geti (ci := 11) (N := 17) fX11_137 (by decide) so_0.is (by decide) (by decide) dX11_storePlan_288 ?_
          obtain ⟨s20, e21, h⟩ := uu_ob h
          refine uu_cv (d1 := 2) (k := k2) (ci := 10) (T := TX10) (N := 6) (As := [.ref (B + r3.2), .ref (B + r18.2), .int (r18.1.I 0 13)]) (st := []) (st' := []) (xc_X10_addNote uk un hk2 e21) hk2.is (by decide) rfl kX10_addNote lX11_346 sX10_addNote (by decide) (Nat.le_of_ble_eq_true rfl) dX11_storePlan_291 rfl ?_
          have hr := Option.some.inj h
          subst hr
          exact uu_vret rfl dX11_storePlan_294
  · replace h := uu_neg c1 h
    refine uu_aload_n dX11_storePlan_168 rfl (List.mem_of_getElem? (i := 0) rfl) ?_
    obtain ⟨s22, e23, h⟩ := uu_ob h
    refine uu_newE e23 nX11_31 dX11_storePlan_169 ?_
    refine uu_dup dX11_storePlan_172 rfl ?_
    refine uu_aload_n dX11_storePlan_173 rfl (List.mem_of_getElem? (i := 2) rfl) ?_
    refine uu_aload_n dX11_storePlan_174 rfl (List.mem_of_getElem? (i := 0) rfl) ?_
    refine uu_geta (ci := 11) (N := 17) fX11_84 (by decide) so_0.is (by decide) (c := 1070) (by decide) dX11_storePlan_175 ?_
    refine uu_geta (ci := 7) (N := 20) fX11_328 (by decide) so_1070.is (by decide) (c := 1074) (by decide) dX11_storePlan_178 ?_
    refine uu_iload dX11_storePlan_181 (List.mem_of_getElem? (i := 4) rfl) ?_
    obtain ⟨v24, e25, h⟩ := uu_ob h
    refine uu_iald e25 dX11_storePlan_183 ?_
    obtain ⟨r26, e27, h⟩ := uu_ob h
    refine uu_cv (d1 := 3) (k := 8) (ci := 9) (T := TX9) (N := 6) (As := [.int v24]) (st := [.ref (B + s.n), .ref (B + s.n), .ref (B + 0)]) (st' := [.ref (B + r26.2), .ref (B + s.n), .ref (B + s.n), .ref (B + 0)]) (xc_X9_copyOf uk un so_8 e27) so_8.is (by decide) rfl kX9_copyOf lX11_331 sX9_copyOf (by decide) (Nat.le_of_ble_eq_true rfl) dX11_storePlan_184 rfl ?_
    refine uu_aload dX11_storePlan_187 (List.mem_of_getElem? (i := 3) rfl) ?_
    obtain ⟨g28, h⟩ := uu_grd h
    obtain ⟨s29, e30, h⟩ := uu_ob h
    refine uu_ci (d1 := 1) (k := s.n) (As := [.ref (B + r26.2), .ref (B + k4)]) (st := [.ref (B + s.n), .ref (B + 0)]) (by have hc := xc_X1_init (l := l) (D := D) uk un  e30; rw [uad_ne g28] at hc; exact hc) rfl kX1_init lX11_315 sX1_init (by decide) (Nat.le_of_ble_eq_true rfl) dX11_storePlan_189 ?_
    obtain ⟨s31, e32, h⟩ := uu_ob h
    refine uu_cv (d1 := 0) (k := 0) (ci := 11) (T := TX11) (N := 17) (As := [.ref (B + s.n)]) (st := []) (st' := []) (xc_X11_storeMail uk  e32) so_0.is (by decide) rfl kX11_storeMail lX11_324 sX11_storeMail (by decide) (Nat.le_of_ble_eq_true rfl) dX11_storePlan_192 rfl ?_
    refine uu_iinc (v := x5 + 1) dX11_storePlan_195 (k := 4) rfl rfl (by decide) rfl ?_
    refine uu_goto (tgt := 156) dX11_storePlan_198 (by decide) ?_
    refine uu_lv [1, 2, 3, 4, 0] (lv' := [(0, .ref (B + 0)), (2, .ref (B + k2)), (3, .ref (B + 8)), (4, .ref (B + k4)), (5, .int (x5 + 1))]) rfl ?_
    exact hK156 k2 k4 (x5 + 1) hk2 _ _ h
def fn_X11_storePlan_156  : Nat → Nat → Nat → Int32 → uS → Option uS
  | 0 => fun _ _ _ _ => none
  | n + 1 => fb_X11_storePlan_156 (fn_X11_storePlan_156  n)
set_option maxRecDepth 100000 in
set_option maxHeartbeats 4000000 in
theorem xn_X11_storePlan_156 {l : Launch} {D : va_G} {A : Nat → ClassId} {B : Nat} {Z : State → Heap → Prop} {vF : Value} (uk : uK B Z vF) (un : uX A B Z)   : ∀ (n : Nat) (k2 : Nat) (k4 : Nat) (x5 : Int32) (hk2 : uSo k2 10) (s : uS) (r : uS), fn_X11_storePlan_156  n k2 k4 x5 s = some r → GU l D A B Z mX11_storePlan 4 (r, none) s 156 [(0, .ref (B + 0)), (2, .ref (B + k2)), (3, .ref (B + 8)), (4, .ref (B + k4)), (5, .int x5)] [] := by
  intro n
  induction n with
  | zero => intro k2 k4 x5 hk2 s r h
            cases h
  | succ n ih => intro k2 k4 x5 hk2 s r h
                 exact xb_X11_storePlan_156 uk un ih hk2 h
def fb_X11_storePlan_79 (K79 : Int32 → Nat → Nat → Int32 → uS → Option uS) (x1 : Int32) (k2 : Nat) (k4 : Nat) (x5 : Int32) (s : uS) : Option uS := if (s.I 1070 5) ≤ x5 then (fn_X11_storePlan_156 uFu k2 k4 0 s) else ((nent s).bind fun s2 => (fn_X1_init s.n 0 k4 s2).bind fun s4 => if uIs s4 s.n 1 then ((iget 20 (wI s4 s.n 2 x1) 1071 x5).bind fun v7 => if uIs (wI s4 s.n 2 x1) s.n 1 then ((iget 20 (wI (wI s4 s.n 2 x1) s.n 3 v7) 1072 x5).bind fun v10 => if uIs (wI (wI s4 s.n 2 x1) s.n 3 v7) s.n 1 then ((fn_X11_storeMail (some s.n) (wI (wI (wI s4 s.n 2 x1) s.n 3 v7) s.n 4 v10)).bind fun s13 => K79 x1 k2 k4 (x5 + 1) s13) else none) else none) else none)
set_option maxRecDepth 100000 in
set_option maxHeartbeats 4000000 in
theorem xb_X11_storePlan_79 {l : Launch} {D : va_G} {A : Nat → ClassId} {B : Nat} {Z : State → Heap → Prop} {vF : Value} (uk : uK B Z vF) (un : uX A B Z) {K79 : Int32 → Nat → Nat → Int32 → uS → Option uS} (hK79 : ∀ (x1 : Int32) (k2 : Nat) (k4 : Nat) (x5 : Int32) (hk2 : uSo k2 10) (s : uS) (r : uS), K79 x1 k2 k4 x5 s = some r → GU l D A B Z mX11_storePlan 4 (r, none) s 79 [(0, .ref (B + 0)), (1, .int x1), (2, .ref (B + k2)), (3, .ref (B + 8)), (4, .ref (B + k4)), (5, .int x5)] []) {x1 : Int32} {k2 : Nat} {k4 : Nat} {x5 : Int32} {s : uS} {r : uS} (hk2 : uSo k2 10) (h : fb_X11_storePlan_79 K79 x1 k2 k4 x5 s = some r) : GU l D A B Z mX11_storePlan 4 (r, none) s 79 [(0, .ref (B + 0)), (1, .int x1), (2, .ref (B + k2)), (3, .ref (B + 8)), (4, .ref (B + k4)), (5, .int x5)] [] := by
  unfold fb_X11_storePlan_79 at h
  refine uu_iload dX11_storePlan_79 (List.mem_of_getElem? (i := 5) rfl) ?_
  refine uu_aload_n dX11_storePlan_81 rfl (List.mem_of_getElem? (i := 0) rfl) ?_
  refine uu_geta (ci := 11) (N := 17) fX11_84 (by decide) so_0.is (by decide) (c := 1070) (by decide) dX11_storePlan_82 ?_
  refine uu_geti (ci := 7) (N := 20) fX11_276 (by decide) so_1070.is (by decide) (by decide) dX11_storePlan_85 ?_
  refine uu_icmp_ge (tgt := 153) dX11_storePlan_88 (by decide) (fun c1 => ?_) (fun c1 => ?_)
  · replace h := uu_pos c1 h
    refine uu_iconst (v := 0) dX11_storePlan_153 (by decide) ?_
    refine uu_istore dX11_storePlan_154 (by decide) rfl ?_
    refine uu_lv [1, 3, 4, 5, 0] (lv' := [(0, .ref (B + 0)), (2, .ref (B + k2)), (3, .ref (B + 8)), (4, .ref (B + k4)), (5, .int 0)]) rfl ?_
    exact xn_X11_storePlan_156 uk un  _ _ _ _ hk2 _ _ h
  · replace h := uu_neg c1 h
    obtain ⟨s2, e3, h⟩ := uu_ob h
    refine uu_newE e3 nX11_31 dX11_storePlan_91 ?_
    refine uu_dup dX11_storePlan_94 rfl ?_
    refine uu_gets un.1 gsX11_312 dX11_storePlan_95 ?_
    refine uu_aload dX11_storePlan_98 (List.mem_of_getElem? (i := 4) rfl) ?_
    obtain ⟨s4, e5, h⟩ := uu_ob h
    refine uu_ci (d1 := 1) (k := s.n) (As := [.ref (uad A B 0), .ref (B + k4)]) (st := [.ref (B + s.n)]) (xc_X1_init uk un  e5) rfl kX1_init lX11_315 sX1_init (by decide) (Nat.le_of_ble_eq_true rfl) dX11_storePlan_100 ?_
    refine uu_astore dX11_storePlan_103 (by decide) rfl ?_
    refine uu_aload dX11_storePlan_105 (List.mem_of_getElem? (i := 0) rfl) ?_
    refine uu_iload_n dX11_storePlan_107 rfl (List.mem_of_getElem? (i := 2) rfl) ?_
    obtain ⟨g6, h⟩ := uu_grd h
    refine uu_puti (ft := .int) (ci := 1) (N := 6) fX11_210 ptX1 (Or.inl rfl) (by decide) g6 (by decide) (by decide) (by decide +kernel) rfl rfl dX11_storePlan_108 ?_
    refine uu_aload dX11_storePlan_111 (List.mem_of_getElem? (i := 0) rfl) ?_
    refine uu_aload_n dX11_storePlan_113 rfl (List.mem_of_getElem? (i := 1) rfl) ?_
    refine uu_geta (ci := 11) (N := 17) fX11_84 (by decide) so_0.is (by decide) (c := 1070) (by decide) dX11_storePlan_114 ?_
    refine uu_geta (ci := 7) (N := 20) fX11_318 (by decide) so_1070.is (by decide) (c := 1071) (by decide) dX11_storePlan_117 ?_
    refine uu_iload dX11_storePlan_120 (List.mem_of_getElem? (i := 6) rfl) ?_
    obtain ⟨v7, e8, h⟩ := uu_ob h
    refine uu_iald e8 dX11_storePlan_122 ?_
    obtain ⟨g9, h⟩ := uu_grd h
    refine uu_puti (ft := .int) (ci := 1) (N := 6) fX11_213 ptX1 (Or.inl rfl) (by decide) g9 (by decide) (by decide) (by decide +kernel) rfl rfl dX11_storePlan_123 ?_
    refine uu_aload dX11_storePlan_126 (List.mem_of_getElem? (i := 0) rfl) ?_
    refine uu_aload_n dX11_storePlan_128 rfl (List.mem_of_getElem? (i := 1) rfl) ?_
    refine uu_geta (ci := 11) (N := 17) fX11_84 (by decide) so_0.is (by decide) (c := 1070) (by decide) dX11_storePlan_129 ?_
    refine uu_geta (ci := 7) (N := 20) fX11_321 (by decide) so_1070.is (by decide) (c := 1072) (by decide) dX11_storePlan_132 ?_
    refine uu_iload dX11_storePlan_135 (List.mem_of_getElem? (i := 6) rfl) ?_
    obtain ⟨v10, e11, h⟩ := uu_ob h
    refine uu_iald e11 dX11_storePlan_137 ?_
    obtain ⟨g12, h⟩ := uu_grd h
    refine uu_puti (ft := .int) (ci := 1) (N := 6) fX11_164 ptX1 (Or.inl rfl) (by decide) g12 (by decide) (by decide) (by decide +kernel) rfl rfl dX11_storePlan_138 ?_
    refine uu_aload_n dX11_storePlan_141 rfl (List.mem_of_getElem? (i := 1) rfl) ?_
    refine uu_aload dX11_storePlan_142 (List.mem_of_getElem? (i := 0) rfl) ?_
    obtain ⟨s13, e14, h⟩ := uu_ob h
    refine uu_cv (d1 := 0) (k := 0) (ci := 11) (T := TX11) (N := 17) (As := [.ref (B + s.n)]) (st := []) (st' := []) (xc_X11_storeMail uk  e14) so_0.is (by decide) rfl kX11_storeMail lX11_324 sX11_storeMail (by decide) (Nat.le_of_ble_eq_true rfl) dX11_storePlan_144 rfl ?_
    refine uu_iinc (v := x5 + 1) dX11_storePlan_147 (k := 6) rfl rfl (by decide) rfl ?_
    refine uu_goto (tgt := 79) dX11_storePlan_150 (by decide) ?_
    refine uu_lv [2, 3, 4, 5, 6, 0] (lv' := [(0, .ref (B + 0)), (1, .int x1), (2, .ref (B + k2)), (3, .ref (B + 8)), (4, .ref (B + k4)), (5, .int (x5 + 1))]) rfl ?_
    exact hK79 x1 k2 k4 (x5 + 1) hk2 _ _ h
def fn_X11_storePlan_79  : Nat → Int32 → Nat → Nat → Int32 → uS → Option uS
  | 0 => fun _ _ _ _ _ => none
  | n + 1 => fb_X11_storePlan_79 (fn_X11_storePlan_79  n)
set_option maxRecDepth 100000 in
set_option maxHeartbeats 4000000 in
theorem xn_X11_storePlan_79 {l : Launch} {D : va_G} {A : Nat → ClassId} {B : Nat} {Z : State → Heap → Prop} {vF : Value} (uk : uK B Z vF) (un : uX A B Z)   : ∀ (n : Nat) (x1 : Int32) (k2 : Nat) (k4 : Nat) (x5 : Int32) (hk2 : uSo k2 10) (s : uS) (r : uS), fn_X11_storePlan_79  n x1 k2 k4 x5 s = some r → GU l D A B Z mX11_storePlan 4 (r, none) s 79 [(0, .ref (B + 0)), (1, .int x1), (2, .ref (B + k2)), (3, .ref (B + 8)), (4, .ref (B + k4)), (5, .int x5)] [] := by
  intro n
  induction n with
  | zero => intro x1 k2 k4 x5 hk2 s r h
            cases h
  | succ n ih => intro x1 k2 k4 x5 hk2 s r h
                 exact xb_X11_storePlan_79 uk un ih hk2 h
def fb_X11_storePlan_21 (K21 : Int32 → Nat → Int32 → uS → Option uS) (x1 : Int32) (k2 : Nat) (x4 : Int32) (s : uS) : Option uS := if (s.I 1070 6) ≤ x4 then ((fn_J7_copyOf_9075b 1051 (s.I 1042 3) s).bind fun r2 => fn_X11_storePlan_79 uFu x1 k2 r2.2 0 r2.1) else ((iget 20 s 1073 x4).bind fun v4 => (fn_X9_addFrom (k2 + 3) 8 v4 s).bind fun s6 => K21 x1 k2 (x4 + 1) s6)
set_option maxRecDepth 100000 in
set_option maxHeartbeats 4000000 in
theorem xb_X11_storePlan_21 {l : Launch} {D : va_G} {A : Nat → ClassId} {B : Nat} {Z : State → Heap → Prop} {vF : Value} (uk : uK B Z vF) (un : uX A B Z) {K21 : Int32 → Nat → Int32 → uS → Option uS} (hK21 : ∀ (x1 : Int32) (k2 : Nat) (x4 : Int32) (hk2 : uSo k2 10) (s : uS) (r : uS), K21 x1 k2 x4 s = some r → GU l D A B Z mX11_storePlan 4 (r, none) s 21 [(0, .ref (B + 0)), (1, .int x1), (2, .ref (B + k2)), (3, .ref (B + 8)), (4, .int x4)] []) {x1 : Int32} {k2 : Nat} {x4 : Int32} {s : uS} {r : uS} (hk2 : uSo k2 10) (h : fb_X11_storePlan_21 K21 x1 k2 x4 s = some r) : GU l D A B Z mX11_storePlan 4 (r, none) s 21 [(0, .ref (B + 0)), (1, .int x1), (2, .ref (B + k2)), (3, .ref (B + 8)), (4, .int x4)] [] := by
  unfold fb_X11_storePlan_21 at h
  refine uu_iload dX11_storePlan_21 (List.mem_of_getElem? (i := 4) rfl) ?_
  refine uu_aload_n dX11_storePlan_23 rfl (List.mem_of_getElem? (i := 0) rfl) ?_
  refine uu_geta (ci := 11) (N := 17) fX11_84 (by decide) so_0.is (by decide) (c := 1070) (by decide) dX11_storePlan_24 ?_
  refine uu_geti (ci := 7) (N := 20) fX11_295 (by decide) so_1070.is (by decide) (by decide) dX11_storePlan_27 ?_
  refine uu_icmp_ge (tgt := 57) dX11_storePlan_30 (by decide) (fun c1 => ?_) (fun c1 => ?_)
  · replace h := uu_pos c1 h
    refine uu_aload_n dX11_storePlan_57 rfl (List.mem_of_getElem? (i := 0) rfl) ?_
    refine uu_geta (ci := 11) (N := 17) fX11_56 (by decide) so_0.is (by decide) (c := 1042) (by decide) dX11_storePlan_58 ?_
    refine uu_geta (ci := 0) (N := 12) fX11_305 (by decide) so_1042.is (by decide) (c := 1051) (by decide) dX11_storePlan_61 ?_
    refine uu_aload_n dX11_storePlan_64 rfl (List.mem_of_getElem? (i := 0) rfl) ?_
    refine uu_geta (ci := 11) (N := 17) fX11_56 (by decide) so_0.is (by decide) (c := 1042) (by decide) dX11_storePlan_65 ?_
    refine uu_geti (ci := 0) (N := 12) fX11_285 (by decide) so_1042.is (by decide) (by decide) dX11_storePlan_68 ?_
    obtain ⟨r2, e3, h⟩ := uu_ob h
    refine uu_cs (d1 := 1) (As := [.ref (B + 1051), .int (s.I 1042 3)]) (st := []) (st' := [.ref (B + r2.2)]) (xc_J7_copyOf_9075b uk un  e3) kJ7_copyOf_9075b lX11_306 sJ7_copyOf_9075b (by decide) (Nat.le_of_ble_eq_true rfl) dX11_storePlan_71 rfl ?_
    refine uu_astore dX11_storePlan_74 (by decide) rfl ?_
    refine uu_iconst (v := 0) dX11_storePlan_76 (by decide) ?_
    refine uu_istore dX11_storePlan_77 (by decide) rfl ?_
    refine uu_lv [2, 3, 4, 5, 1, 0] (lv' := [(0, .ref (B + 0)), (1, .int x1), (2, .ref (B + k2)), (3, .ref (B + 8)), (4, .ref (B + r2.2)), (5, .int 0)]) rfl ?_
    exact xn_X11_storePlan_79 uk un  _ _ _ _ _ hk2 _ _ h
  · replace h := uu_neg c1 h
    refine uu_aload_n dX11_storePlan_33 rfl (List.mem_of_getElem? (i := 2) rfl) ?_
    refine uu_getc (ci := 10) (N := 6) fX11_176 (by decide) hk2.is (by decide) (c := 3) (by decide) (k2 := k2 + 3) rfl dX11_storePlan_34 ?_
    refine uu_aload_n dX11_storePlan_37 rfl (List.mem_of_getElem? (i := 3) rfl) ?_
    refine uu_aload_n dX11_storePlan_38 rfl (List.mem_of_getElem? (i := 0) rfl) ?_
    refine uu_geta (ci := 11) (N := 17) fX11_84 (by decide) so_0.is (by decide) (c := 1070) (by decide) dX11_storePlan_39 ?_
    refine uu_geta (ci := 7) (N := 20) fX11_298 (by decide) so_1070.is (by decide) (c := 1073) (by decide) dX11_storePlan_42 ?_
    refine uu_iload dX11_storePlan_45 (List.mem_of_getElem? (i := 4) rfl) ?_
    obtain ⟨v4, e5, h⟩ := uu_ob h
    refine uu_iald e5 dX11_storePlan_47 ?_
    obtain ⟨s6, e7, h⟩ := uu_ob h
    refine uu_cv (d1 := 2) (k := k2 + 3) (ci := 9) (T := TX9) (N := 6) (As := [.ref (B + 8), .int v4]) (st := []) (st' := []) (xc_X9_addFrom uk un (so_boxes hk2) so_8 e7) (so_boxes hk2).is (by decide) rfl kX9_addFrom lX11_301 sX9_addFrom (by decide) (Nat.le_of_ble_eq_true rfl) dX11_storePlan_48 rfl ?_
    refine uu_iinc (v := x4 + 1) dX11_storePlan_51 (k := 4) rfl rfl (by decide) rfl ?_
    refine uu_goto (tgt := 21) dX11_storePlan_54 (by decide) ?_
    refine uu_lv [1, 2, 3, 4, 0] (lv' := [(0, .ref (B + 0)), (1, .int x1), (2, .ref (B + k2)), (3, .ref (B + 8)), (4, .int (x4 + 1))]) rfl ?_
    exact hK21 x1 k2 (x4 + 1) hk2 _ _ h
def fn_X11_storePlan_21  : Nat → Int32 → Nat → Int32 → uS → Option uS
  | 0 => fun _ _ _ _ => none
  | n + 1 => fb_X11_storePlan_21 (fn_X11_storePlan_21  n)
set_option maxRecDepth 100000 in
set_option maxHeartbeats 4000000 in
theorem xn_X11_storePlan_21 {l : Launch} {D : va_G} {A : Nat → ClassId} {B : Nat} {Z : State → Heap → Prop} {vF : Value} (uk : uK B Z vF) (un : uX A B Z)   : ∀ (n : Nat) (x1 : Int32) (k2 : Nat) (x4 : Int32) (hk2 : uSo k2 10) (s : uS) (r : uS), fn_X11_storePlan_21  n x1 k2 x4 s = some r → GU l D A B Z mX11_storePlan 4 (r, none) s 21 [(0, .ref (B + 0)), (1, .int x1), (2, .ref (B + k2)), (3, .ref (B + 8)), (4, .int x4)] [] := by
  intro n
  induction n with
  | zero => intro x1 k2 x4 hk2 s r h
            cases h
  | succ n ih => intro x1 k2 x4 hk2 s r h
                 exact xb_X11_storePlan_21 uk un ih hk2 h
def fn_X11_storePlan (x1 : Int32) (s : uS) : Option uS := (pgt 26 s 4 x1).bind fun j1 => if uSo j1 10 then (fn_X11_storePlan_21 uFu x1 j1 0 s) else none
set_option maxRecDepth 100000 in
set_option maxHeartbeats 4000000 in
theorem xc_X11_storePlan {l : Launch} {D : va_G} {A : Nat → ClassId} {B : Nat} {Z : State → Heap → Prop} {vF : Value} (uk : uK B Z vF) (un : uX A B Z) {x1 : Int32} {s : uS} {r : uS}  (h : fn_X11_storePlan x1 s = some r) : CU l D A B Z 4 mX11_storePlan s [.ref (B + 0), .int x1] (r, none) := by
  unfold fn_X11_storePlan at h
  refine cu_of rfl uk.1.1 (Nat.le_of_ble_eq_true rfl) ?_
  show GU _ _ _ _ _ _ _ _ _ 0 [(0, .ref (B + 0)), (1, .int x1)] []
  refine uu_aload_n dX11_storePlan_0 rfl (List.mem_of_getElem? (i := 0) rfl) ?_
  refine uu_geta (ci := 11) (N := 17) fX11_27 (by decide) so_0.is (by decide) (c := 4) (by decide) dX11_storePlan_1 ?_
  refine uu_iload_n dX11_storePlan_4 rfl (List.mem_of_getElem? (i := 1) rfl) ?_
  obtain ⟨j1, e2, h⟩ := uu_ob h
  refine uu_aald (t := 26) rfl (by decide) e2 dX11_storePlan_5 ?_
  obtain ⟨g3, h⟩ := uu_grd h
  refine uu_astore_n dX11_storePlan_6 rfl (by decide) rfl ?_
  refine uu_aload_n dX11_storePlan_7 rfl (List.mem_of_getElem? (i := 1) rfl) ?_
  refine uu_geta (ci := 11) (N := 17) fX11_40 (by decide) so_0.is (by decide) (c := 6) (by decide) dX11_storePlan_8 ?_
  refine uu_geta (ci := 4) (N := 9) fX11_62 (by decide) so_6.is (by decide) (c := 7) (by decide) dX11_storePlan_11 ?_
  refine uu_geta (ci := 2) (N := 9) fX11_66 (by decide) so_7.is (by decide) (c := 8) (by decide) dX11_storePlan_14 ?_
  refine uu_astore_n dX11_storePlan_17 rfl (by decide) rfl ?_
  refine uu_iconst (v := 0) dX11_storePlan_18 (by decide) ?_
  refine uu_istore dX11_storePlan_19 (by decide) rfl ?_
  refine uu_lv [3, 4, 2, 1, 0] (lv' := [(0, .ref (B + 0)), (1, .int x1), (2, .ref (B + j1)), (3, .ref (B + 8)), (4, .int 0)]) rfl ?_
  exact xn_X11_storePlan_21 uk un  _ _ _ _ g3 _ _ h
