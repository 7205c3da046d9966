abbrev mX2_readQuoted : hM := (yX2_readQuoted, cX2_readQuoted, 2, none)
theorem dX2_readQuoted_94 : decode cX2_readQuoted 94 = .ok (.iadd, 1) := by decide +kernel
theorem dX2_readQuoted_95 : decode cX2_readQuoted 95 = .ok (.istore_n 1, 1) := by decide +kernel
theorem dX2_readQuoted_96 : decode cX2_readQuoted 96 = .ok (.iload_n 1, 1) := by decide +kernel
theorem dX2_readQuoted_97 : decode cX2_readQuoted 97 = .ok (.aload_n 0, 1) := by decide +kernel
theorem dX2_readQuoted_98 : decode cX2_readQuoted 98 = .ok (.getfield 29, 3) := by decide +kernel
theorem dX2_readQuoted_101 : decode cX2_readQuoted 101 = .ok (.if_icmp .ge 16, 3) := by decide +kernel
theorem dX2_readQuoted_117 : decode cX2_readQuoted 117 = .ok (.iinc 1 1, 3) := by decide +kernel
theorem dX2_readQuoted_120 : decode cX2_readQuoted 120 = .ok (.goto (-107), 3) := by decide +kernel
theorem dX2_readQuoted_104 : decode cX2_readQuoted 104 = .ok (.aload_n 0, 1) := by decide +kernel
theorem dX2_readQuoted_105 : decode cX2_readQuoted 105 = .ok (.getfield 14, 3) := by decide +kernel
theorem dX2_readQuoted_108 : decode cX2_readQuoted 108 = .ok (.aload_n 0, 1) := by decide +kernel
theorem dX2_readQuoted_109 : decode cX2_readQuoted 109 = .ok (.getfield 18, 3) := by decide +kernel
theorem dX2_readQuoted_112 : decode cX2_readQuoted 112 = .ok (.iload_n 1, 1) := by decide +kernel
theorem dX2_readQuoted_113 : decode cX2_readQuoted 113 = .ok (.baload, 1) := by decide +kernel
theorem lX2_126 : Cond.methodLink RX2 126 mX9_put.1 ∈ lw_g := h_t5 12 rfl rfl
theorem dX2_readQuoted_114 : decode cX2_readQuoted 114 = .ok (.invokevirtual 126, 3) := by decide +kernel
theorem dX2_readQuoted_13 : decode cX2_readQuoted 13 = .ok (.iload_n 1, 1) := by decide +kernel
theorem dX2_readQuoted_14 : decode cX2_readQuoted 14 = .ok (.aload_n 0, 1) := by decide +kernel
theorem dX2_readQuoted_15 : decode cX2_readQuoted 15 = .ok (.getfield 29, 3) := by decide +kernel
theorem dX2_readQuoted_18 : decode cX2_readQuoted 18 = .ok (.if_icmp .ge 105, 3) := by decide +kernel
theorem dX2_readQuoted_123 : decode cX2_readQuoted 123 = .ok (.aload_n 0, 1) := by decide +kernel
theorem dX2_readQuoted_124 : decode cX2_readQuoted 124 = .ok (.iload_n 1, 1) := by decide +kernel
theorem dX2_readQuoted_125 : decode cX2_readQuoted 125 = .ok (.putfield 26, 3) := by decide +kernel
theorem dX2_readQuoted_128 : decode cX2_readQuoted 128 = .ok (.return_, 1) := by decide +kernel
theorem dX2_readQuoted_21 : decode cX2_readQuoted 21 = .ok (.aload_n 0, 1) := by decide +kernel
theorem dX2_readQuoted_22 : decode cX2_readQuoted 22 = .ok (.getfield 14, 3) := by decide +kernel
theorem fX2_117 : h_fl RX2 117 9 5 RX9 TX9 6 := ⟨rfl, by decide, inX9, h_t1 94 rfl rfl⟩
theorem dX2_readQuoted_25 : decode cX2_readQuoted 25 = .ok (.getfield 117, 3) := by decide +kernel
theorem dX2_readQuoted_28 : decode cX2_readQuoted 28 = .ok (.aload_n 0, 1) := by decide +kernel
theorem dX2_readQuoted_29 : decode cX2_readQuoted 29 = .ok (.getfield 14, 3) := by decide +kernel
theorem fX2_120 : h_fl RX2 120 9 4 RX9 TX9 6 := ⟨rfl, by decide, inX9, h_t1 90 rfl rfl⟩
theorem dX2_readQuoted_32 : decode cX2_readQuoted 32 = .ok (.getfield 120, 3) := by decide +kernel
theorem dX2_readQuoted_35 : decode cX2_readQuoted 35 = .ok (.isub, 1) := by decide +kernel
theorem dX2_readQuoted_36 : decode cX2_readQuoted 36 = .ok (.sipush 200, 3) := by decide +kernel
theorem dX2_readQuoted_39 : decode cX2_readQuoted 39 = .ok (.if_icmp .gt 84, 3) := by decide +kernel
theorem dX2_readQuoted_42 : decode cX2_readQuoted 42 = .ok (.aload_n 0, 1) := by decide +kernel
theorem dX2_readQuoted_43 : decode cX2_readQuoted 43 = .ok (.getfield 42, 3) := by decide +kernel
theorem dX2_readQuoted_46 : decode cX2_readQuoted 46 = .ok (.bipush 6, 2) := by decide +kernel
theorem dX2_readQuoted_48 : decode cX2_readQuoted 48 = .ok (.if_icmp .ne 75, 3) := by decide +kernel
theorem dX2_readQuoted_51 : decode cX2_readQuoted 51 = .ok (.aload_n 0, 1) := by decide +kernel
theorem dX2_readQuoted_52 : decode cX2_readQuoted 52 = .ok (.getfield 18, 3) := by decide +kernel
theorem dX2_readQuoted_55 : decode cX2_readQuoted 55 = .ok (.iload_n 1, 1) := by decide +kernel
theorem dX2_readQuoted_56 : decode cX2_readQuoted 56 = .ok (.baload, 1) := by decide +kernel
theorem dX2_readQuoted_57 : decode cX2_readQuoted 57 = .ok (.bipush 34, 2) := by decide +kernel
theorem dX2_readQuoted_59 : decode cX2_readQuoted 59 = .ok (.if_icmp .ne 18, 3) := by decide +kernel
theorem dX2_readQuoted_77 : decode cX2_readQuoted 77 = .ok (.iload_n 1, 1) := by decide +kernel
theorem dX2_readQuoted_78 : decode cX2_readQuoted 78 = .ok (.aload_n 0, 1) := by decide +kernel
theorem dX2_readQuoted_79 : decode cX2_readQuoted 79 = .ok (.getfield 18, 3) := by decide +kernel
theorem dX2_readQuoted_82 : decode cX2_readQuoted 82 = .ok (.iload_n 1, 1) := by decide +kernel
theorem dX2_readQuoted_83 : decode cX2_readQuoted 83 = .ok (.baload, 1) := by decide +kernel
theorem dX2_readQuoted_84 : decode cX2_readQuoted 84 = .ok (.bipush 92, 2) := by decide +kernel
theorem dX2_readQuoted_86 : decode cX2_readQuoted 86 = .ok (.if_icmp .ne 7, 3) := by decide +kernel
theorem dX2_readQuoted_93 : decode cX2_readQuoted 93 = .ok (.iconst 0, 1) := by decide +kernel
theorem dX2_readQuoted_89 : decode cX2_readQuoted 89 = .ok (.iconst 1, 1) := by decide +kernel
theorem dX2_readQuoted_90 : decode cX2_readQuoted 90 = .ok (.goto 4, 3) := by decide +kernel
theorem dX2_readQuoted_62 : decode cX2_readQuoted 62 = .ok (.aload_n 0, 1) := by decide +kernel
theorem dX2_readQuoted_63 : decode cX2_readQuoted 63 = .ok (.iconst 3, 1) := by decide +kernel
theorem dX2_readQuoted_64 : decode cX2_readQuoted 64 = .ok (.putfield 42, 3) := by decide +kernel
theorem dX2_readQuoted_67 : decode cX2_readQuoted 67 = .ok (.aload_n 0, 1) := by decide +kernel
theorem dX2_readQuoted_68 : decode cX2_readQuoted 68 = .ok (.getfield 14, 3) := by decide +kernel
theorem lX2_123 : Cond.methodLink RX2 123 mX9_close.1 ∈ lw_g := h_t4 234 rfl rfl
theorem dX2_readQuoted_71 : decode cX2_readQuoted 71 = .ok (.invokevirtual 123, 3) := by decide +kernel
theorem dX2_readQuoted_74 : decode cX2_readQuoted 74 = .ok (.goto 43, 3) := by decide +kernel
theorem dX2_readQuoted_0 : decode cX2_readQuoted 0 = .ok (.aload_n 0, 1) := by decide +kernel
theorem dX2_readQuoted_1 : decode cX2_readQuoted 1 = .ok (.bipush 6, 2) := by decide +kernel
theorem dX2_readQuoted_3 : decode cX2_readQuoted 3 = .ok (.putfield 42, 3) := by decide +kernel
theorem dX2_readQuoted_6 : decode cX2_readQuoted 6 = .ok (.aload_n 0, 1) := by decide +kernel
theorem dX2_readQuoted_7 : decode cX2_readQuoted 7 = .ok (.getfield 45, 3) := by decide +kernel
theorem dX2_readQuoted_10 : decode cX2_readQuoted 10 = .ok (.iconst 1, 1) := by decide +kernel
theorem dX2_readQuoted_11 : decode cX2_readQuoted 11 = .ok (.iadd, 1) := by decide +kernel
theorem dX2_readQuoted_12 : decode cX2_readQuoted 12 = .ok (.istore_n 1, 1) := by decide +kernel
def fb_X2_readQuoted_94 (K13 : Int32 → uS → Option uS) (bs0 : Bool) (xs1 : Int32) (s : uS) : Option uS := if (s.I 7 5) ≤ (xs1 + (bI bs0)) then (K13 ((xs1 + (bI bs0)) + 1) s) else ((s.R 7 1).bind fun j2 => (iget 21 s j2 (xs1 + (bI bs0))).bind fun v4 => (fn_X9_put 8 v4 s).bind fun s6 => K13 ((xs1 + (bI bs0)) + 1) s6)
set_option maxRecDepth 100000 in
set_option maxHeartbeats 4000000 in
theorem xb_X2_readQuoted_94 {l : Launch} {D : va_G} {A : Nat → ClassId} {B : Nat} {Z : State → Heap → Prop} {vF : Value} (uk : uK B Z vF) {K13 : Int32 → uS → Option uS} (hK13 : ∀ (x1 : Int32)  (s : uS) (r : uS), K13 x1 s = some r → GU l D A B Z mX2_readQuoted 1 (r, none) s 13 [(0, .ref (B + 7)), (1, .int x1)] []) {bs0 : Bool} {xs1 : Int32} {s : uS} {r : uS}  (h : fb_X2_readQuoted_94 K13 bs0 xs1 s = some r) : GU l D A B Z mX2_readQuoted 1 (r, none) s 94 [(0, .ref (B + 7))] [.int (bI bs0), .int xs1] := by
  unfold fb_X2_readQuoted_94 at h
  refine uu_iadd dX2_readQuoted_94 ?_
  refine uu_istore_n dX2_readQuoted_95 rfl (by decide) rfl ?_
  refine uu_iload_n dX2_readQuoted_96 rfl (List.mem_of_getElem? (i := 0) rfl) ?_
  refine uu_aload_n dX2_readQuoted_97 rfl (List.mem_of_getElem? (i := 1) rfl) ?_
  refine uu_geti (ci := 2) (N := 9) fX2_29 (by decide) so_7.is (by decide) (by decide) dX2_readQuoted_98 ?_
  refine uu_icmp_ge (tgt := 117) dX2_readQuoted_101 (by decide) (fun c1 => ?_) (fun c1 => ?_)
  · replace h := uu_pos c1 h
    refine uu_iinc (v := (xs1 + (bI bs0)) + 1) dX2_readQuoted_117 (k := 0) rfl rfl (by decide) rfl ?_
    refine uu_goto (tgt := 13) dX2_readQuoted_120 (by decide) ?_
    refine uu_lv [1, 0] (lv' := [(0, .ref (B + 7)), (1, .int ((xs1 + (bI bs0)) + 1))]) rfl ?_
    exact hK13 ((xs1 + (bI bs0)) + 1) _ _ h
  · replace h := uu_neg c1 h
    refine uu_aload_n dX2_readQuoted_104 rfl (List.mem_of_getElem? (i := 1) rfl) ?_
    refine uu_geta (ci := 2) (N := 9) fX2_14 (by decide) so_7.is (by decide) (c := 8) (by decide) dX2_readQuoted_105 ?_
    refine uu_aload_n dX2_readQuoted_108 rfl (List.mem_of_getElem? (i := 1) rfl) ?_
    obtain ⟨j2, e3, h⟩ := uu_ob h
    refine uu_getr (ci := 2) (N := 9) fX2_18 (by decide) so_7.is (by decide) (by decide) e3 dX2_readQuoted_109 ?_
    refine uu_iload_n dX2_readQuoted_112 rfl (List.mem_of_getElem? (i := 0) rfl) ?_
    obtain ⟨v4, e5, h⟩ := uu_ob h
    refine uu_bald e5 dX2_readQuoted_113 ?_
    obtain ⟨s6, e7, h⟩ := uu_ob h
    refine uu_cv (d1 := 0) (k := 8) (ci := 9) (T := TX9) (N := 6) (As := [.int v4]) (st := []) (st' := []) (xc_X9_put uk so_8 e7) so_8.is (by decide) rfl kX9_put lX2_126 sX9_put (by decide) (Nat.le_of_ble_eq_true rfl) dX2_readQuoted_114 rfl ?_
    refine uu_iinc (v := (xs1 + (bI bs0)) + 1) dX2_readQuoted_117 (k := 0) rfl rfl (by decide) rfl ?_
    refine uu_goto (tgt := 13) dX2_readQuoted_120 (by decide) ?_
    refine uu_lv [1, 0] (lv' := [(0, .ref (B + 7)), (1, .int ((xs1 + (bI bs0)) + 1))]) rfl ?_
    exact hK13 ((xs1 + (bI bs0)) + 1) _ _ h
def fb_X2_readQuoted_13 (K13 : Int32 → uS → Option uS) (x1 : Int32) (s : uS) : Option uS := if (s.I 7 5) ≤ x1 then (some (wI s 7 8 x1)) else (if (200 : Int32) < ((s.I 8 5) - (s.I 8 4)) then (some (wI s 7 8 x1)) else (if (s.I 7 2) = 6 then ((s.R 7 1).bind fun j4 => (iget 21 s j4 x1).bind fun v6 => if v6 = 34 then ((fn_X9_close 8 (wI s 7 2 3)).bind fun s14 => K13 (x1 + 1) s14) else ((s.R 7 1).bind fun j9 => (iget 21 s j9 x1).bind fun v11 => if v11 = 92 then (fb_X2_readQuoted_94 K13 true x1 s) else (fb_X2_readQuoted_94 K13 false x1 s))) else (some (wI s 7 8 x1))))
set_option maxRecDepth 100000 in
set_option maxHeartbeats 4000000 in
theorem xb_X2_readQuoted_13 {l : Launch} {D : va_G} {A : Nat → ClassId} {B : Nat} {Z : State → Heap → Prop} {vF : Value} (uk : uK B Z vF) {K13 : Int32 → uS → Option uS} (hK13 : ∀ (x1 : Int32)  (s : uS) (r : uS), K13 x1 s = some r → GU l D A B Z mX2_readQuoted 1 (r, none) s 13 [(0, .ref (B + 7)), (1, .int x1)] []) {x1 : Int32} {s : uS} {r : uS}  (h : fb_X2_readQuoted_13 K13 x1 s = some r) : GU l D A B Z mX2_readQuoted 1 (r, none) s 13 [(0, .ref (B + 7)), (1, .int x1)] [] := by
  unfold fb_X2_readQuoted_13 at h
  refine uu_iload_n dX2_readQuoted_13 rfl (List.mem_of_getElem? (i := 1) rfl) ?_
  refine uu_aload_n dX2_readQuoted_14 rfl (List.mem_of_getElem? (i := 0) rfl) ?_
  refine uu_geti (ci := 2) (N := 9) fX2_29 (by decide) so_7.is (by decide) (by decide) dX2_readQuoted_15 ?_
  refine uu_icmp_ge (tgt := 123) dX2_readQuoted_18 (by decide) (fun c1 => ?_) (fun c1 => ?_)
  · replace h := uu_pos c1 h
    refine uu_aload_n dX2_readQuoted_123 rfl (List.mem_of_getElem? (i := 0) rfl) ?_
    refine uu_iload_n dX2_readQuoted_124 rfl (List.mem_of_getElem? (i := 1) rfl) ?_
    refine uu_puti (ft := .int) (ci := 2) (N := 9) fX2_26 ptX2 (Or.inl rfl) (by decide) so_7.is (by decide) (by decide) (by decide +kernel) rfl rfl dX2_readQuoted_125 ?_
    have hr := Option.some.inj h
    subst hr
    exact uu_vret rfl dX2_readQuoted_128
  · replace h := uu_neg c1 h
    refine uu_aload_n dX2_readQuoted_21 rfl (List.mem_of_getElem? (i := 0) rfl) ?_
    refine uu_geta (ci := 2) (N := 9) fX2_14 (by decide) so_7.is (by decide) (c := 8) (by decide) dX2_readQuoted_22 ?_
    refine uu_geti (ci := 9) (N := 6) fX2_117 (by decide) so_8.is (by decide) (by decide) dX2_readQuoted_25 ?_
    refine uu_aload_n dX2_readQuoted_28 rfl (List.mem_of_getElem? (i := 0) rfl) ?_
    refine uu_geta (ci := 2) (N := 9) fX2_14 (by decide) so_7.is (by decide) (c := 8) (by decide) dX2_readQuoted_29 ?_
    refine uu_geti (ci := 9) (N := 6) fX2_120 (by decide) so_8.is (by decide) (by decide) dX2_readQuoted_32 ?_
    refine uu_isub dX2_readQuoted_35 ?_
    refine uu_sipush (v := 200) dX2_readQuoted_36 (by decide) ?_
    refine uu_icmp_gt (tgt := 123) dX2_readQuoted_39 (by decide) (fun c2 => ?_) (fun c2 => ?_)
    · replace h := uu_pos c2 h
      refine uu_aload_n dX2_readQuoted_123 rfl (List.mem_of_getElem? (i := 0) rfl) ?_
      refine uu_iload_n dX2_readQuoted_124 rfl (List.mem_of_getElem? (i := 1) rfl) ?_
      refine uu_puti (ft := .int) (ci := 2) (N := 9) fX2_26 ptX2 (Or.inl rfl) (by decide) so_7.is (by decide) (by decide) (by decide +kernel) rfl rfl dX2_readQuoted_125 ?_
      have hr := Option.some.inj h
      subst hr
      exact uu_vret rfl dX2_readQuoted_128
    · replace h := uu_neg c2 h
      refine uu_aload_n dX2_readQuoted_42 rfl (List.mem_of_getElem? (i := 0) rfl) ?_
      refine uu_geti (ci := 2) (N := 9) fX2_42 (by decide) so_7.is (by decide) (by decide) dX2_readQuoted_43 ?_
      refine uu_bipush (v := 6) dX2_readQuoted_46 (by decide) ?_
      refine uu_icmp_ne (tgt := 123) dX2_readQuoted_48 (by decide) (fun c3 => ?_) (fun c3 => ?_)
      · replace h := uu_neg c3 h
        refine uu_aload_n dX2_readQuoted_123 rfl (List.mem_of_getElem? (i := 0) rfl) ?_
        refine uu_iload_n dX2_readQuoted_124 rfl (List.mem_of_getElem? (i := 1) rfl) ?_
        refine uu_puti (ft := .int) (ci := 2) (N := 9) fX2_26 ptX2 (Or.inl rfl) (by decide) so_7.is (by decide) (by decide) (by decide +kernel) rfl rfl dX2_readQuoted_125 ?_
        have hr := Option.some.inj h
        subst hr
        exact uu_vret rfl dX2_readQuoted_128
      · replace h := uu_pos c3 h
        refine uu_aload_n dX2_readQuoted_51 rfl (List.mem_of_getElem? (i := 0) rfl) ?_
        obtain ⟨j4, e5, h⟩ := uu_ob h
        refine uu_getr (ci := 2) (N := 9) fX2_18 (by decide) so_7.is (by decide) (by decide) e5 dX2_readQuoted_52 ?_
        refine uu_iload_n dX2_readQuoted_55 rfl (List.mem_of_getElem? (i := 1) rfl) ?_
        obtain ⟨v6, e7, h⟩ := uu_ob h
        refine uu_bald e7 dX2_readQuoted_56 ?_
        refine uu_bipush (v := 34) dX2_readQuoted_57 (by decide) ?_
        refine uu_icmp_ne (tgt := 77) dX2_readQuoted_59 (by decide) (fun c8 => ?_) (fun c8 => ?_)
        · replace h := uu_neg c8 h
          refine uu_iload_n dX2_readQuoted_77 rfl (List.mem_of_getElem? (i := 1) rfl) ?_
          refine uu_aload_n dX2_readQuoted_78 rfl (List.mem_of_getElem? (i := 0) rfl) ?_
          obtain ⟨j9, e10, h⟩ := uu_ob h
          refine uu_getr (ci := 2) (N := 9) fX2_18 (by decide) so_7.is (by decide) (by decide) e10 dX2_readQuoted_79 ?_
          refine uu_iload_n dX2_readQuoted_82 rfl (List.mem_of_getElem? (i := 1) rfl) ?_
          obtain ⟨v11, e12, h⟩ := uu_ob h
          refine uu_bald e12 dX2_readQuoted_83 ?_
          refine uu_bipush (v := 92) dX2_readQuoted_84 (by decide) ?_
          refine uu_icmp_ne (tgt := 93) dX2_readQuoted_86 (by decide) (fun c13 => ?_) (fun c13 => ?_)
          · replace h := uu_neg c13 h
            refine uu_iconst (v := 0) dX2_readQuoted_93 (by decide) ?_
            refine uu_lv [0] (lv' := [(0, .ref (B + 7))]) rfl ?_
            exact xb_X2_readQuoted_94 uk hK13 h
          · replace h := uu_pos c13 h
            refine uu_iconst (v := 1) dX2_readQuoted_89 (by decide) ?_
            refine uu_goto (tgt := 94) dX2_readQuoted_90 (by decide) ?_
            refine uu_lv [0] (lv' := [(0, .ref (B + 7))]) rfl ?_
            exact xb_X2_readQuoted_94 uk hK13 h
        · replace h := uu_pos c8 h
          refine uu_aload_n dX2_readQuoted_62 rfl (List.mem_of_getElem? (i := 0) rfl) ?_
          refine uu_iconst (v := 3) dX2_readQuoted_63 (by decide) ?_
          refine uu_puti (ft := .int) (ci := 2) (N := 9) fX2_42 ptX2 (Or.inl rfl) (by decide) so_7.is (by decide) (by decide) (by decide +kernel) rfl rfl dX2_readQuoted_64 ?_
          refine uu_aload_n dX2_readQuoted_67 rfl (List.mem_of_getElem? (i := 0) rfl) ?_
          refine uu_geta (ci := 2) (N := 9) fX2_14 (by decide) so_7.is (by decide) (c := 8) (by decide) dX2_readQuoted_68 ?_
          obtain ⟨s14, e15, h⟩ := uu_ob h
          refine uu_cv (d1 := 0) (k := 8) (ci := 9) (T := TX9) (N := 6) (As := []) (st := []) (st' := []) (xc_X9_close uk so_8 e15) so_8.is (by decide) rfl kX9_close lX2_123 sX9_close (by decide) (Nat.le_of_ble_eq_true rfl) dX2_readQuoted_71 rfl ?_
          refine uu_goto (tgt := 117) dX2_readQuoted_74 (by decide) ?_
          refine uu_iinc (v := x1 + 1) dX2_readQuoted_117 (k := 1) rfl rfl (by decide) rfl ?_
          refine uu_goto (tgt := 13) dX2_readQuoted_120 (by decide) ?_
          refine uu_lv [1, 0] (lv' := [(0, .ref (B + 7)), (1, .int (x1 + 1))]) rfl ?_
          exact hK13 (x1 + 1) _ _ h
def fn_X2_readQuoted_13  : Nat → Int32 → uS → Option uS
  | 0 => fun _ _ => none
  | n + 1 => fb_X2_readQuoted_13 (fn_X2_readQuoted_13  n)
set_option maxRecDepth 100000 in
set_option maxHeartbeats 4000000 in
theorem xn_X2_readQuoted_13 {l : Launch} {D : va_G} {A : Nat → ClassId} {B : Nat} {Z : State → Heap → Prop} {vF : Value} (uk : uK B Z vF)   : ∀ (n : Nat) (x1 : Int32)  (s : uS) (r : uS), fn_X2_readQuoted_13  n x1 s = some r → GU l D A B Z mX2_readQuoted 1 (r, none) s 13 [(0, .ref (B + 7)), (1, .int x1)] [] := by
  intro n
  induction n with
  | zero => intro x1 s r h
            cases h
  | succ n ih => intro x1 s r h
                 exact xb_X2_readQuoted_13 uk ih  h
def fn_X2_readQuoted  (s : uS) : Option uS := fn_X2_readQuoted_13 uFu (((wI s 7 2 6).I 7 6) + 1) (wI s 7 2 6)
set_option maxRecDepth 100000 in
set_option maxHeartbeats 4000000 in
theorem xc_X2_readQuoted {l : Launch} {D : va_G} {A : Nat → ClassId} {B : Nat} {Z : State → Heap → Prop} {vF : Value} (uk : uK B Z vF)  {s : uS} {r : uS}  (h : fn_X2_readQuoted  s = some r) : CU l D A B Z 1 mX2_readQuoted s [.ref (B + 7)] (r, none) := by
  unfold fn_X2_readQuoted at h
  refine cu_of rfl uk.1.1 (Nat.le_of_ble_eq_true rfl) ?_
  show GU _ _ _ _ _ _ _ _ _ 0 [(0, .ref (B + 7))] []
  refine uu_aload_n dX2_readQuoted_0 rfl (List.mem_of_getElem? (i := 0) rfl) ?_
  refine uu_bipush (v := 6) dX2_readQuoted_1 (by decide) ?_
  refine uu_puti (ft := .int) (ci := 2) (N := 9) fX2_42 ptX2 (Or.inl rfl) (by decide) so_7.is (by decide) (by decide) (by decide +kernel) rfl rfl dX2_readQuoted_3 ?_
  refine uu_aload_n dX2_readQuoted_6 rfl (List.mem_of_getElem? (i := 0) rfl) ?_
  refine uu_geti (ci := 2) (N := 9) fX2_45 (by decide) so_7.is (by decide) (by decide) dX2_readQuoted_7 ?_
  refine uu_iconst (v := 1) dX2_readQuoted_10 (by decide) ?_
  refine uu_iadd dX2_readQuoted_11 ?_
  refine uu_istore_n dX2_readQuoted_12 rfl (by decide) rfl ?_
  refine uu_lv [1, 0] (lv' := [(0, .ref (B + 7)), (1, .int (((wI s 7 2 6).I 7 6) + 1))]) rfl ?_
  exact xn_X2_readQuoted_13 uk  _ _ _ _ h
abbrev mX3_isSimpleTest : hM := (yX3_isSimpleTest, cX3_isSimpleTest, 1, (some (.boolean)))
theorem dX3_isSimpleTest_0 : decode cX3_isSimpleTest 0 = .ok (.aload_n 0, 1) := by decide +kernel
theorem fX3_16 : h_fl RX3 16 3 0 RX3 TX3 15 := ⟨rfl, by decide, inX3, h_t1 151 rfl rfl⟩
theorem dX3_isSimpleTest_1 : decode cX3_isSimpleTest 1 = .ok (.getfield 16, 3) := by decide +kernel
theorem dX3_isSimpleTest_4 : decode cX3_isSimpleTest 4 = .ok (.bipush 11, 2) := by decide +kernel
theorem dX3_isSimpleTest_6 : decode cX3_isSimpleTest 6 = .ok (.if_icmp .lt 43, 3) := by decide +kernel
theorem dX3_isSimpleTest_49 : decode cX3_isSimpleTest 49 = .ok (.iconst 0, 1) := by decide +kernel
theorem dX3_isSimpleTest_50 : decode cX3_isSimpleTest 50 = .ok (.ireturn, 1) := by decide +kernel
theorem dX3_isSimpleTest_9 : decode cX3_isSimpleTest 9 = .ok (.aload_n 0, 1) := by decide +kernel
theorem dX3_isSimpleTest_10 : decode cX3_isSimpleTest 10 = .ok (.getfield 16, 3) := by decide +kernel
theorem dX3_isSimpleTest_13 : decode cX3_isSimpleTest 13 = .ok (.bipush 21, 2) := by decide +kernel
theorem dX3_isSimpleTest_15 : decode cX3_isSimpleTest 15 = .ok (.if_icmp .gt 34, 3) := by decide +kernel
theorem dX3_isSimpleTest_18 : decode cX3_isSimpleTest 18 = .ok (.aload_n 0, 1) := by decide +kernel
theorem dX3_isSimpleTest_19 : decode cX3_isSimpleTest 19 = .ok (.getfield 16, 3) := by decide +kernel
theorem dX3_isSimpleTest_22 : decode cX3_isSimpleTest 22 = .ok (.bipush 17, 2) := by decide +kernel
theorem dX3_isSimpleTest_24 : decode cX3_isSimpleTest 24 = .ok (.if_icmp .eq 25, 3) := by decide +kernel
theorem dX3_isSimpleTest_27 : decode cX3_isSimpleTest 27 = .ok (.aload_n 0, 1) := by decide +kernel
theorem dX3_isSimpleTest_28 : decode cX3_isSimpleTest 28 = .ok (.getfield 16, 3) := by decide +kernel
theorem dX3_isSimpleTest_31 : decode cX3_isSimpleTest 31 = .ok (.bipush 18, 2) := by decide +kernel
theorem dX3_isSimpleTest_33 : decode cX3_isSimpleTest 33 = .ok (.if_icmp .eq 16, 3) := by decide +kernel
theorem dX3_isSimpleTest_36 : decode cX3_isSimpleTest 36 = .ok (.aload_n 0, 1) := by decide +kernel
theorem dX3_isSimpleTest_37 : decode cX3_isSimpleTest 37 = .ok (.getfield 16, 3) := by decide +kernel
theorem dX3_isSimpleTest_40 : decode cX3_isSimpleTest 40 = .ok (.bipush 19, 2) := by decide +kernel
theorem dX3_isSimpleTest_42 : decode cX3_isSimpleTest 42 = .ok (.if_icmp .eq 7, 3) := by decide +kernel
theorem dX3_isSimpleTest_45 : decode cX3_isSimpleTest 45 = .ok (.iconst 1, 1) := by decide +kernel
theorem dX3_isSimpleTest_46 : decode cX3_isSimpleTest 46 = .ok (.goto 4, 3) := by decide +kernel
def fn_X3_isSimpleTest (k0 : Nat) (s : uS) : Option Bool := if (s.I k0 0) < 11 then (some false) else (if (21 : Int32) < (s.I k0 0) then (some false) else (if (s.I k0 0) = 17 then (some false) else (if (s.I k0 0) = 18 then (some false) else (if (s.I k0 0) = 19 then (some false) else (some true)))))
set_option maxRecDepth 100000 in
set_option maxHeartbeats 4000000 in
theorem xc_X3_isSimpleTest {l : Launch} {D : va_G} {A : Nat → ClassId} {B : Nat} {Z : State → Heap → Prop} {vF : Value} (uk : uK B Z vF) {k0 : Nat} {s : uS} {r : Bool} (hk0 : uSo k0 3) (h : fn_X3_isSimpleTest k0 s = some r) : CU l D A B Z 0 mX3_isSimpleTest s [.ref (B + k0)] (s, some (.int (bI r))) := by
  unfold fn_X3_isSimpleTest at h
  refine cu_of rfl uk.1.1 (Nat.le_of_ble_eq_true rfl) ?_
  show GU _ _ _ _ _ _ _ _ _ 0 [(0, .ref (B + k0))] []
  refine uu_aload_n dX3_isSimpleTest_0 rfl (List.mem_of_getElem? (i := 0) rfl) ?_
  refine uu_geti (ci := 3) (N := 15) fX3_16 (by decide) hk0.is (by decide) (by decide) dX3_isSimpleTest_1 ?_
  refine uu_bipush (v := 11) dX3_isSimpleTest_4 (by decide) ?_
  refine uu_icmp_lt (tgt := 49) dX3_isSimpleTest_6 (by decide) (fun c1 => ?_) (fun c1 => ?_)
  · replace h := uu_pos c1 h
    refine uu_iconst (v := 0) dX3_isSimpleTest_49 (by decide) ?_
    have hr := Option.some.inj h
    subst hr
    exact uu_zret (x := bI false) rfl (bI_z _) dX3_isSimpleTest_50
  · replace h := uu_neg c1 h
    refine uu_aload_n dX3_isSimpleTest_9 rfl (List.mem_of_getElem? (i := 0) rfl) ?_
    refine uu_geti (ci := 3) (N := 15) fX3_16 (by decide) hk0.is (by decide) (by decide) dX3_isSimpleTest_10 ?_
    refine uu_bipush (v := 21) dX3_isSimpleTest_13 (by decide) ?_
    refine uu_icmp_gt (tgt := 49) dX3_isSimpleTest_15 (by decide) (fun c2 => ?_) (fun c2 => ?_)
    · replace h := uu_pos c2 h
      refine uu_iconst (v := 0) dX3_isSimpleTest_49 (by decide) ?_
      have hr := Option.some.inj h
      subst hr
      exact uu_zret (x := bI false) rfl (bI_z _) dX3_isSimpleTest_50
    · replace h := uu_neg c2 h
      refine uu_aload_n dX3_isSimpleTest_18 rfl (List.mem_of_getElem? (i := 0) rfl) ?_
      refine uu_geti (ci := 3) (N := 15) fX3_16 (by decide) hk0.is (by decide) (by decide) dX3_isSimpleTest_19 ?_
      refine uu_bipush (v := 17) dX3_isSimpleTest_22 (by decide) ?_
      refine uu_icmp_eq (tgt := 49) dX3_isSimpleTest_24 (by decide) (fun c3 => ?_) (fun c3 => ?_)
      · replace h := uu_pos c3 h
        refine uu_iconst (v := 0) dX3_isSimpleTest_49 (by decide) ?_
        have hr := Option.some.inj h
        subst hr
        exact uu_zret (x := bI false) rfl (bI_z _) dX3_isSimpleTest_50
      · replace h := uu_neg c3 h
        refine uu_aload_n dX3_isSimpleTest_27 rfl (List.mem_of_getElem? (i := 0) rfl) ?_
        refine uu_geti (ci := 3) (N := 15) fX3_16 (by decide) hk0.is (by decide) (by decide) dX3_isSimpleTest_28 ?_
        refine uu_bipush (v := 18) dX3_isSimpleTest_31 (by decide) ?_
        refine uu_icmp_eq (tgt := 49) dX3_isSimpleTest_33 (by decide) (fun c4 => ?_) (fun c4 => ?_)
        · replace h := uu_pos c4 h
          refine uu_iconst (v := 0) dX3_isSimpleTest_49 (by decide) ?_
          have hr := Option.some.inj h
          subst hr
          exact uu_zret (x := bI false) rfl (bI_z _) dX3_isSimpleTest_50
        · replace h := uu_neg c4 h
          refine uu_aload_n dX3_isSimpleTest_36 rfl (List.mem_of_getElem? (i := 0) rfl) ?_
          refine uu_geti (ci := 3) (N := 15) fX3_16 (by decide) hk0.is (by decide) (by decide) dX3_isSimpleTest_37 ?_
          refine uu_bipush (v := 19) dX3_isSimpleTest_40 (by decide) ?_
          refine uu_icmp_eq (tgt := 49) dX3_isSimpleTest_42 (by decide) (fun c5 => ?_) (fun c5 => ?_)
          · replace h := uu_pos c5 h
            refine uu_iconst (v := 0) dX3_isSimpleTest_49 (by decide) ?_
            have hr := Option.some.inj h
            subst hr
            exact uu_zret (x := bI false) rfl (bI_z _) dX3_isSimpleTest_50
          · replace h := uu_neg c5 h
            refine uu_iconst (v := 1) dX3_isSimpleTest_45 (by decide) ?_
            refine uu_goto (tgt := 50) dX3_isSimpleTest_46 (by decide) ?_
            have hr := Option.some.inj h
            subst hr
            exact uu_zret (x := bI true) rfl (bI_z _) dX3_isSimpleTest_50
abbrev mX3_isElse : hM := (yX3_isElse, cX3_isElse, 1, (some (.boolean)))
theorem dX3_isElse_0 : decode cX3_isElse 0 = .ok (.aload_n 0, 1) := by decide +kernel
theorem dX3_isElse_1 : decode cX3_isElse 1 = .ok (.getfield 16, 3) := by decide +kernel
theorem dX3_isElse_4 : decode cX3_isElse 4 = .ok (.bipush 22, 2) := by decide +kernel
theorem dX3_isElse_6 : decode cX3_isElse 6 = .ok (.if_icmp .eq 12, 3) := by decide +kernel
theorem dX3_isElse_18 : decode cX3_isElse 18 = .ok (.iconst 1, 1) := by decide +kernel
theorem dX3_isElse_19 : decode cX3_isElse 19 = .ok (.goto 4, 3) := by decide +kernel
theorem dX3_isElse_23 : decode cX3_isElse 23 = .ok (.ireturn, 1) := by decide +kernel
theorem dX3_isElse_9 : decode cX3_isElse 9 = .ok (.aload_n 0, 1) := by decide +kernel
theorem dX3_isElse_10 : decode cX3_isElse 10 = .ok (.getfield 16, 3) := by decide +kernel
theorem dX3_isElse_13 : decode cX3_isElse 13 = .ok (.bipush 23, 2) := by decide +kernel
theorem dX3_isElse_15 : decode cX3_isElse 15 = .ok (.if_icmp .ne 7, 3) := by decide +kernel
theorem dX3_isElse_22 : decode cX3_isElse 22 = .ok (.iconst 0, 1) := by decide +kernel
def fn_X3_isElse (k0 : Nat) (s : uS) : Option Bool := if (s.I k0 0) = 22 then (some true) else (if (s.I k0 0) = 23 then (some true) else (some false))
set_option maxRecDepth 100000 in
set_option maxHeartbeats 4000000 in
theorem xc_X3_isElse {l : Launch} {D : va_G} {A : Nat → ClassId} {B : Nat} {Z : State → Heap → Prop} {vF : Value} (uk : uK B Z vF) {k0 : Nat} {s : uS} {r : Bool} (hk0 : uSo k0 3) (h : fn_X3_isElse k0 s = some r) : CU l D A B Z 0 mX3_isElse s [.ref (B + k0)] (s, some (.int (bI r))) := by
  unfold fn_X3_isElse at h
  refine cu_of rfl uk.1.1 (Nat.le_of_ble_eq_true rfl) ?_
  show GU _ _ _ _ _ _ _ _ _ 0 [(0, .ref (B + k0))] []
  refine uu_aload_n dX3_isElse_0 rfl (List.mem_of_getElem? (i := 0) rfl) ?_
  refine uu_geti (ci := 3) (N := 15) fX3_16 (by decide) hk0.is (by decide) (by decide) dX3_isElse_1 ?_
  refine uu_bipush (v := 22) dX3_isElse_4 (by decide) ?_
  refine uu_icmp_eq (tgt := 18) dX3_isElse_6 (by decide) (fun c1 => ?_) (fun c1 => ?_)
  · replace h := uu_pos c1 h
    refine uu_iconst (v := 1) dX3_isElse_18 (by decide) ?_
    refine uu_goto (tgt := 23) dX3_isElse_19 (by decide) ?_
    have hr := Option.some.inj h
    subst hr
    exact uu_zret (x := bI true) rfl (bI_z _) dX3_isElse_23
  · replace h := uu_neg c1 h
    refine uu_aload_n dX3_isElse_9 rfl (List.mem_of_getElem? (i := 0) rfl) ?_
    refine uu_geti (ci := 3) (N := 15) fX3_16 (by decide) hk0.is (by decide) (by decide) dX3_isElse_10 ?_
    refine uu_bipush (v := 23) dX3_isElse_13 (by decide) ?_
    refine uu_icmp_ne (tgt := 22) dX3_isElse_15 (by decide) (fun c2 => ?_) (fun c2 => ?_)
    · replace h := uu_neg c2 h
      refine uu_iconst (v := 0) dX3_isElse_22 (by decide) ?_
      have hr := Option.some.inj h
      subst hr
      exact uu_zret (x := bI false) rfl (bI_z _) dX3_isElse_23
    · replace h := uu_pos c2 h
      refine uu_iconst (v := 1) dX3_isElse_18 (by decide) ?_
      refine uu_goto (tgt := 23) dX3_isElse_19 (by decide) ?_
      have hr := Option.some.inj h
      subst hr
      exact uu_zret (x := bI true) rfl (bI_z _) dX3_isElse_23
abbrev mX3_has : hM := (yX3_has, cX3_has, 2, (some (.boolean)))
theorem dX3_has_0 : decode cX3_has 0 = .ok (.aload_n 0, 1) := by decide +kernel
theorem fX3_26 : h_fl RX3 26 3 5 RX3 TX3 15 := ⟨rfl, by decide, inX3, h_t1 163 rfl rfl⟩
theorem dX3_has_1 : decode cX3_has 1 = .ok (.getfield 26, 3) := by decide +kernel
theorem dX3_has_4 : decode cX3_has 4 = .ok (.iload_n 1, 1) := by decide +kernel
theorem dX3_has_5 : decode cX3_has 5 = .ok (.iand, 1) := by decide +kernel
theorem dX3_has_6 : decode cX3_has 6 = .ok (.ifCond .eq 7, 3) := by decide +kernel
theorem dX3_has_13 : decode cX3_has 13 = .ok (.iconst 0, 1) := by decide +kernel
theorem dX3_has_14 : decode cX3_has 14 = .ok (.ireturn, 1) := by decide +kernel
theorem dX3_has_9 : decode cX3_has 9 = .ok (.iconst 1, 1) := by decide +kernel
theorem dX3_has_10 : decode cX3_has 10 = .ok (.goto 4, 3) := by decide +kernel
def fn_X3_has (k0 : Nat) (x1 : Int32) (s : uS) : Option Bool := if ((s.I k0 5) &&& x1) = 0 then (some false) else (some true)
set_option maxRecDepth 100000 in
set_option maxHeartbeats 4000000 in
theorem xc_X3_has {l : Launch} {D : va_G} {A : Nat → ClassId} {B : Nat} {Z : State → Heap → Prop} {vF : Value} (uk : uK B Z vF) {k0 : Nat} {x1 : Int32} {s : uS} {r : Bool} (hk0 : uSo k0 3) (h : fn_X3_has k0 x1 s = some r) : CU l D A B Z 0 mX3_has s [.ref (B + k0), .int x1] (s, some (.int (bI r))) := by
  unfold fn_X3_has at h
  refine cu_of rfl uk.1.1 (Nat.le_of_ble_eq_true rfl) ?_
  show GU _ _ _ _ _ _ _ _ _ 0 [(0, .ref (B + k0)), (1, .int x1)] []
  refine uu_aload_n dX3_has_0 rfl (List.mem_of_getElem? (i := 0) rfl) ?_
  refine uu_geti (ci := 3) (N := 15) fX3_26 (by decide) hk0.is (by decide) (by decide) dX3_has_1 ?_
  refine uu_iload_n dX3_has_4 rfl (List.mem_of_getElem? (i := 1) rfl) ?_
  refine uu_iand dX3_has_5 ?_
  refine uu_if_eq (tgt := 13) dX3_has_6 (by decide) (fun c1 => ?_) (fun c1 => ?_)
  · replace h := uu_pos c1 h
    refine uu_iconst (v := 0) dX3_has_13 (by decide) ?_
    have hr := Option.some.inj h
    subst hr
    exact uu_zret (x := bI false) rfl (bI_z _) dX3_has_14
  · replace h := uu_neg c1 h
    refine uu_iconst (v := 1) dX3_has_9 (by decide) ?_
    refine uu_goto (tgt := 14) dX3_has_10 (by decide) ?_
    have hr := Option.some.inj h
    subst hr
    exact uu_zret (x := bI true) rfl (bI_z _) dX3_has_14
abbrev mX3_handle : hM := (yX3_handle, cX3_handle, 1, (some (.int)))
theorem dX3_handle_0 : decode cX3_handle 0 = .ok (.aload_n 0, 1) := by decide +kernel
theorem dX3_handle_1 : decode cX3_handle 1 = .ok (.sipush 256, 3) := by decide +kernel
theorem kX3_has : h_ml mX3_has 1 := ⟨h_t5 93 rfl rfl, h_t1 5 rfl rfl, ⟨by decide, by decide, by decide +kernel⟩, by decide⟩
theorem lX3_47 : Cond.methodLink RX3 47 mX3_has.1 ∈ lw_g := h_t6 96 rfl rfl
theorem sX3_has : Cond.instanceMethod mX3_has.1 ∈ lw_g ∧ Cond.selects mX3_has.1.cls mX3_has.1 mX3_has.1 ∈ lw_g := ⟨h_t5 91 rfl rfl, h_t5 92 rfl rfl⟩
theorem dX3_handle_4 : decode cX3_handle 4 = .ok (.invokevirtual 47, 3) := by decide +kernel
theorem dX3_handle_7 : decode cX3_handle 7 = .ok (.ifCond .eq 13, 3) := by decide +kernel
theorem dX3_handle_20 : decode cX3_handle 20 = .ok (.aload_n 0, 1) := by decide +kernel
theorem dX3_handle_21 : decode cX3_handle 21 = .ok (.getfield 9, 3) := by decide +kernel
theorem dX3_handle_24 : decode cX3_handle 24 = .ok (.iconst 5, 1) := by decide +kernel
theorem dX3_handle_25 : decode cX3_handle 25 = .ok (.iaload, 1) := by decide +kernel
theorem dX3_handle_26 : decode cX3_handle 26 = .ok (.ireturn, 1) := by decide +kernel
theorem dX3_handle_10 : decode cX3_handle 10 = .ok (.aload_n 0, 1) := by decide +kernel
theorem dX3_handle_11 : decode cX3_handle 11 = .ok (.getfield 9, 3) := by decide +kernel
theorem dX3_handle_14 : decode cX3_handle 14 = .ok (.bipush 7, 2) := by decide +kernel
theorem dX3_handle_16 : decode cX3_handle 16 = .ok (.iaload, 1) := by decide +kernel
theorem dX3_handle_17 : decode cX3_handle 17 = .ok (.goto 9, 3) := by decide +kernel
def fn_X3_handle (k0 : Nat) (s : uS) : Option Int32 := (fn_X3_has k0 256 s).bind fun v1 => if v1 = true then ((iget 20 s (k0 + 1) 7).bind fun v6 => some v6) else ((iget 20 s (k0 + 1) 5).bind fun v4 => some v4)
set_option maxRecDepth 100000 in
set_option maxHeartbeats 4000000 in
theorem xc_X3_handle {l : Launch} {D : va_G} {A : Nat → ClassId} {B : Nat} {Z : State → Heap → Prop} {vF : Value} (uk : uK B Z vF) {k0 : Nat} {s : uS} {r : Int32} (hk0 : uSo k0 3) (h : fn_X3_handle k0 s = some r) : CU l D A B Z 1 mX3_handle s [.ref (B + k0)] (s, some (.int r)) := by
  unfold fn_X3_handle at h
  refine cu_of rfl uk.1.1 (Nat.le_of_ble_eq_true rfl) ?_
  show GU _ _ _ _ _ _ _ _ _ 0 [(0, .ref (B + k0))] []
  refine uu_aload_n dX3_handle_0 rfl (List.mem_of_getElem? (i := 0) rfl) ?_
  refine uu_sipush (v := 256) dX3_handle_1 (by decide) ?_
  obtain ⟨v1, e2, h⟩ := uu_ob h
  refine uu_cv (d1 := 0) (k := k0) (ci := 3) (T := TX3) (N := 15) (As := [.int 256]) (st := []) (st' := [.int (bI v1)]) (xc_X3_has uk hk0 e2) hk0.is (by decide) rfl kX3_has lX3_47 sX3_has (by decide) (Nat.le_of_ble_eq_true rfl) dX3_handle_4 rfl ?_
  refine uu_ifb_eq (tgt := 20) dX3_handle_7 (by decide) (fun c3 => ?_) (fun c3 => ?_)
  · replace h := uu_neg c3 h
    refine uu_aload_n dX3_handle_20 rfl (List.mem_of_getElem? (i := 0) rfl) ?_
    refine uu_getc (ci := 3) (N := 15) fX3_9 (by decide) hk0.is (by decide) (c := 1) (by decide) (k2 := k0 + 1) rfl dX3_handle_21 ?_
    refine uu_iconst (v := 5) dX3_handle_24 (by decide) ?_
    obtain ⟨v4, e5, h⟩ := uu_ob h
    refine uu_iald e5 dX3_handle_25 ?_
    have hr := Option.some.inj h
    subst hr
    exact uu_iret rfl dX3_handle_26
  · replace h := uu_pos c3 h
    refine uu_aload_n dX3_handle_10 rfl (List.mem_of_getElem? (i := 0) rfl) ?_
    refine uu_getc (ci := 3) (N := 15) fX3_9 (by decide) hk0.is (by decide) (c := 1) (by decide) (k2 := k0 + 1) rfl dX3_handle_11 ?_
    refine uu_bipush (v := 7) dX3_handle_14 (by decide) ?_
    obtain ⟨v6, e7, h⟩ := uu_ob h
    refine uu_iald e7 dX3_handle_16 ?_
    refine uu_goto (tgt := 26) dX3_handle_17 (by decide) ?_
    have hr := Option.some.inj h
    subst hr
    exact uu_iret rfl dX3_handle_26
abbrev mX9_lengthOf : hM := (yX9_lengthOf, cX9_lengthOf, 2, (some (.int)))
theorem dX9_lengthOf_0 : decode cX9_lengthOf 0 = .ok (.iload_n 1, 1) := by decide +kernel
theorem dX9_lengthOf_1 : decode cX9_lengthOf 1 = .ok (.ifCond .lt 27, 3) := by decide +kernel
theorem dX9_lengthOf_28 : decode cX9_lengthOf 28 = .ok (.iconst 0, 1) := by decide +kernel
theorem dX9_lengthOf_29 : decode cX9_lengthOf 29 = .ok (.ireturn, 1) := by decide +kernel
theorem dX9_lengthOf_4 : decode cX9_lengthOf 4 = .ok (.iload_n 1, 1) := by decide +kernel
theorem dX9_lengthOf_5 : decode cX9_lengthOf 5 = .ok (.aload_n 0, 1) := by decide +kernel
theorem dX9_lengthOf_6 : decode cX9_lengthOf 6 = .ok (.getfield 20, 3) := by decide +kernel
theorem dX9_lengthOf_9 : decode cX9_lengthOf 9 = .ok (.if_icmp .ge 19, 3) := by decide +kernel
theorem dX9_lengthOf_12 : decode cX9_lengthOf 12 = .ok (.aload_n 0, 1) := by decide +kernel
theorem dX9_lengthOf_13 : decode cX9_lengthOf 13 = .ok (.getfield 17, 3) := by decide +kernel
theorem dX9_lengthOf_16 : decode cX9_lengthOf 16 = .ok (.iload_n 1, 1) := by decide +kernel
theorem dX9_lengthOf_17 : decode cX9_lengthOf 17 = .ok (.iaload, 1) := by decide +kernel
theorem dX9_lengthOf_18 : decode cX9_lengthOf 18 = .ok (.aload_n 0, 1) := by decide +kernel
theorem dX9_lengthOf_19 : decode cX9_lengthOf 19 = .ok (.getfield 13, 3) := by decide +kernel
theorem dX9_lengthOf_22 : decode cX9_lengthOf 22 = .ok (.iload_n 1, 1) := by decide +kernel
theorem dX9_lengthOf_23 : decode cX9_lengthOf 23 = .ok (.iaload, 1) := by decide +kernel
theorem dX9_lengthOf_24 : decode cX9_lengthOf 24 = .ok (.isub, 1) := by decide +kernel
theorem dX9_lengthOf_25 : decode cX9_lengthOf 25 = .ok (.goto 4, 3) := by decide +kernel
def fn_X9_lengthOf (k0 : Nat) (x1 : Int32) (s : uS) : Option Int32 := if x1 < 0 then (some (0 : Int32)) else (if (s.I k0 3) ≤ x1 then (some (0 : Int32)) else ((iget 20 s (k0 + 3) x1).bind fun v3 => (iget 20 s (k0 + 2) x1).bind fun v5 => some (v3 - v5)))
set_option maxRecDepth 100000 in
set_option maxHeartbeats 4000000 in
theorem xc_X9_lengthOf {l : Launch} {D : va_G} {A : Nat → ClassId} {B : Nat} {Z : State → Heap → Prop} {vF : Value} (uk : uK B Z vF) {k0 : Nat} {x1 : Int32} {s : uS} {r : Int32} (hk0 : uSo k0 9) (h : fn_X9_lengthOf k0 x1 s = some r) : CU l D A B Z 0 mX9_lengthOf s [.ref (B + k0), .int x1] (s, some (.int r)) := by
  unfold fn_X9_lengthOf at h
  refine cu_of rfl uk.1.1 (Nat.le_of_ble_eq_true rfl) ?_
  show GU _ _ _ _ _ _ _ _ _ 0 [(0, .ref (B + k0)), (1, .int x1)] []
  refine uu_iload_n dX9_lengthOf_0 rfl (List.mem_of_getElem? (i := 1) rfl) ?_
  refine uu_if_lt (tgt := 28) dX9_lengthOf_1 (by decide) (fun c1 => ?_) (fun c1 => ?_)
  · replace h := uu_pos c1 h
    refine uu_iconst (v := 0) dX9_lengthOf_28 (by decide) ?_
    have hr := Option.some.inj h
    subst hr
    exact uu_iret rfl dX9_lengthOf_29
  · replace h := uu_neg c1 h
    refine uu_iload_n dX9_lengthOf_4 rfl (List.mem_of_getElem? (i := 1) rfl) ?_
    refine uu_aload_n dX9_lengthOf_5 rfl (List.mem_of_getElem? (i := 0) rfl) ?_
    refine uu_geti (ci := 9) (N := 6) fX9_20 (by decide) hk0.is (by decide) (by decide) dX9_lengthOf_6 ?_
    refine uu_icmp_ge (tgt := 28) dX9_lengthOf_9 (by decide) (fun c2 => ?_) (fun c2 => ?_)
    · replace h := uu_pos c2 h
      refine uu_iconst (v := 0) dX9_lengthOf_28 (by decide) ?_
      have hr := Option.some.inj h
      subst hr
      exact uu_iret rfl dX9_lengthOf_29
    · replace h := uu_neg c2 h
      refine uu_aload_n dX9_lengthOf_12 rfl (List.mem_of_getElem? (i := 0) rfl) ?_
      refine uu_getc (ci := 9) (N := 6) fX9_17 (by decide) hk0.is (by decide) (c := 3) (by decide) (k2 := k0 + 3) rfl dX9_lengthOf_13 ?_
      refine uu_iload_n dX9_lengthOf_16 rfl (List.mem_of_getElem? (i := 1) rfl) ?_
      obtain ⟨v3, e4, h⟩ := uu_ob h
      refine uu_iald e4 dX9_lengthOf_17 ?_
      refine uu_aload_n dX9_lengthOf_18 rfl (List.mem_of_getElem? (i := 0) rfl) ?_
      refine uu_getc (ci := 9) (N := 6) fX9_13 (by decide) hk0.is (by decide) (c := 2) (by decide) (k2 := k0 + 2) rfl dX9_lengthOf_19 ?_
      refine uu_iload_n dX9_lengthOf_22 rfl (List.mem_of_getElem? (i := 1) rfl) ?_
      obtain ⟨v5, e6, h⟩ := uu_ob h
      refine uu_iald e6 dX9_lengthOf_23 ?_
      refine uu_isub dX9_lengthOf_24 ?_
      refine uu_goto (tgt := 29) dX9_lengthOf_25 (by decide) ?_
      have hr := Option.some.inj h
      subst hr
      exact uu_iret rfl dX9_lengthOf_29
abbrev mX3_isWithin : hM := (yX3_isWithin, cX3_isWithin, 7, (some (.boolean)))
theorem dX3_isWithin_72 : decode cX3_isWithin 72 = .ok (.iload 6, 2) := by decide +kernel
theorem dX3_isWithin_74 : decode cX3_isWithin 74 = .ok (.iload 4, 2) := by decide +kernel
theorem dX3_isWithin_76 : decode cX3_isWithin 76 = .ok (.if_icmp .ne 5, 3) := by decide +kernel
theorem dX3_isWithin_81 : decode cX3_isWithin 81 = .ok (.iinc 5 1, 3) := by decide +kernel
theorem dX3_isWithin_84 : decode cX3_isWithin 84 = .ok (.goto (-69), 3) := by decide +kernel
theorem dX3_isWithin_79 : decode cX3_isWithin 79 = .ok (.iconst 1, 1) := by decide +kernel
theorem dX3_isWithin_80 : decode cX3_isWithin 80 = .ok (.ireturn, 1) := by decide +kernel
theorem dX3_isWithin_32 : decode cX3_isWithin 32 = .ok (.iload 6, 2) := by decide +kernel
theorem dX3_isWithin_34 : decode cX3_isWithin 34 = .ok (.iload 4, 2) := by decide +kernel
theorem dX3_isWithin_36 : decode cX3_isWithin 36 = .ok (.if_icmp .ge 36, 3) := by decide +kernel
theorem dX3_isWithin_39 : decode cX3_isWithin 39 = .ok (.aload_n 0, 1) := by decide +kernel
theorem fX3_83 : h_fl RX3 83 9 0 RX9 TX9 6 := ⟨rfl, by decide, inX9, h_t1 59 rfl rfl⟩
theorem dX3_isWithin_40 : decode cX3_isWithin 40 = .ok (.getfield 83, 3) := by decide +kernel
theorem dX3_isWithin_43 : decode cX3_isWithin 43 = .ok (.iload 5, 2) := by decide +kernel
theorem dX3_isWithin_45 : decode cX3_isWithin 45 = .ok (.iload 6, 2) := by decide +kernel
theorem dX3_isWithin_47 : decode cX3_isWithin 47 = .ok (.iadd, 1) := by decide +kernel
theorem dX3_isWithin_48 : decode cX3_isWithin 48 = .ok (.baload, 1) := by decide +kernel
theorem dX3_isWithin_49 : decode cX3_isWithin 49 = .ok (.aload_n 2, 1) := by decide +kernel
theorem dX3_isWithin_50 : decode cX3_isWithin 50 = .ok (.getfield 83, 3) := by decide +kernel
theorem dX3_isWithin_53 : decode cX3_isWithin 53 = .ok (.aload_n 2, 1) := by decide +kernel
theorem fX3_87 : h_fl RX3 87 9 1 RX9 TX9 6 := ⟨rfl, by decide, inX9, h_t1 67 rfl rfl⟩
theorem dX3_isWithin_54 : decode cX3_isWithin 54 = .ok (.getfield 87, 3) := by decide +kernel
theorem dX3_isWithin_57 : decode cX3_isWithin 57 = .ok (.iload_n 3, 1) := by decide +kernel
theorem dX3_isWithin_58 : decode cX3_isWithin 58 = .ok (.iaload, 1) := by decide +kernel
theorem dX3_isWithin_59 : decode cX3_isWithin 59 = .ok (.iload 6, 2) := by decide +kernel
theorem dX3_isWithin_61 : decode cX3_isWithin 61 = .ok (.iadd, 1) := by decide +kernel
theorem dX3_isWithin_62 : decode cX3_isWithin 62 = .ok (.baload, 1) := by decide +kernel
theorem dX3_isWithin_63 : decode cX3_isWithin 63 = .ok (.if_icmp .ne 9, 3) := by decide +kernel
theorem dX3_isWithin_66 : decode cX3_isWithin 66 = .ok (.iinc 6 1, 3) := by decide +kernel
theorem dX3_isWithin_69 : decode cX3_isWithin 69 = .ok (.goto (-37), 3) := by decide +kernel
theorem dX3_isWithin_15 : decode cX3_isWithin 15 = .ok (.iload 5, 2) := by decide +kernel
theorem dX3_isWithin_17 : decode cX3_isWithin 17 = .ok (.iload 4, 2) := by decide +kernel
theorem dX3_isWithin_19 : decode cX3_isWithin 19 = .ok (.iadd, 1) := by decide +kernel
theorem dX3_isWithin_20 : decode cX3_isWithin 20 = .ok (.aload_n 0, 1) := by decide +kernel
theorem fX3_94 : h_fl RX3 94 9 2 RX9 TX9 6 := ⟨rfl, by decide, inX9, h_t1 75 rfl rfl⟩
theorem dX3_isWithin_21 : decode cX3_isWithin 21 = .ok (.getfield 94, 3) := by decide +kernel
theorem dX3_isWithin_24 : decode cX3_isWithin 24 = .ok (.iload_n 1, 1) := by decide +kernel
theorem dX3_isWithin_25 : decode cX3_isWithin 25 = .ok (.iaload, 1) := by decide +kernel
theorem dX3_isWithin_26 : decode cX3_isWithin 26 = .ok (.if_icmp .gt 61, 3) := by decide +kernel
theorem dX3_isWithin_87 : decode cX3_isWithin 87 = .ok (.iconst 0, 1) := by decide +kernel
theorem dX3_isWithin_88 : decode cX3_isWithin 88 = .ok (.ireturn, 1) := by decide +kernel
theorem dX3_isWithin_29 : decode cX3_isWithin 29 = .ok (.iconst 0, 1) := by decide +kernel
theorem dX3_isWithin_30 : decode cX3_isWithin 30 = .ok (.istore 6, 2) := by decide +kernel
theorem dX3_isWithin_0 : decode cX3_isWithin 0 = .ok (.aload_n 2, 1) := by decide +kernel
theorem dX3_isWithin_1 : decode cX3_isWithin 1 = .ok (.iload_n 3, 1) := by decide +kernel
theorem kX9_lengthOf : h_ml mX9_lengthOf 1 := ⟨h_t5 119 rfl rfl, h_t1 4 rfl rfl, ⟨by decide, by decide, by decide +kernel⟩, by decide⟩
theorem lX3_71 : Cond.methodLink RX3 71 mX9_lengthOf.1 ∈ lw_g := h_t5 225 rfl rfl
theorem sX9_lengthOf : Cond.instanceMethod mX9_lengthOf.1 ∈ lw_g ∧ Cond.selects mX9_lengthOf.1.cls mX9_lengthOf.1 mX9_lengthOf.1 ∈ lw_g := ⟨h_t5 117 rfl rfl, h_t5 118 rfl rfl⟩
theorem dX3_isWithin_2 : decode cX3_isWithin 2 = .ok (.invokevirtual 71, 3) := by decide +kernel
theorem dX3_isWithin_5 : decode cX3_isWithin 5 = .ok (.istore 4, 2) := by decide +kernel
theorem dX3_isWithin_7 : decode cX3_isWithin 7 = .ok (.aload_n 0, 1) := by decide +kernel
theorem dX3_isWithin_8 : decode cX3_isWithin 8 = .ok (.getfield 87, 3) := by decide +kernel
theorem dX3_isWithin_11 : decode cX3_isWithin 11 = .ok (.iload_n 1, 1) := by decide +kernel
theorem dX3_isWithin_12 : decode cX3_isWithin 12 = .ok (.iaload, 1) := by decide +kernel
theorem dX3_isWithin_13 : decode cX3_isWithin 13 = .ok (.istore 5, 2) := by decide +kernel
def fb_X3_isWithin_72 (K15 : Nat → Int32 → Nat → Int32 → Int32 → Int32 → uS → Option Bool) (k0 : Nat) (x1 : Int32) (k2 : Nat) (x3 : Int32) (x4 : Int32) (x5 : Int32) (x6 : Int32) (s : uS) : Option Bool := if x6 = x4 then (some true) else (K15 k0 x1 k2 x3 x4 (x5 + 1) s)
set_option maxRecDepth 100000 in
set_option maxHeartbeats 4000000 in
theorem xb_X3_isWithin_72 {l : Launch} {D : va_G} {A : Nat → ClassId} {B : Nat} {Z : State → Heap → Prop} {vF : Value} (uk : uK B Z vF) {K15 : Nat → Int32 → Nat → Int32 → Int32 → Int32 → uS → Option Bool} (hK15 : ∀ (k0 : Nat) (x1 : Int32) (k2 : Nat) (x3 : Int32) (x4 : Int32) (x5 : Int32) (hk0 : uSo k0 9) (hk2 : uSo k2 9) (s : uS) (r : Bool), K15 k0 x1 k2 x3 x4 x5 s = some r → GU l D A B Z mX3_isWithin 1 (s, some (.int (bI r))) s 15 [(0, .ref (B + k0)), (1, .int x1), (2, .ref (B + k2)), (3, .int x3), (4, .int x4), (5, .int x5)] []) {k0 : Nat} {x1 : Int32} {k2 : Nat} {x3 : Int32} {x4 : Int32} {x5 : Int32} {x6 : Int32} {s : uS} {r : Bool} (hk0 : uSo k0 9) (hk2 : uSo k2 9) (h : fb_X3_isWithin_72 K15 k0 x1 k2 x3 x4 x5 x6 s = some r) : GU l D A B Z mX3_isWithin 1 (s, some (.int (bI r))) s 72 [(0, .ref (B + k0)), (1, .int x1), (2, .ref (B + k2)), (3, .int x3), (4, .int x4), (5, .int x5), (6, .int x6)] [] := by
  unfold fb_X3_isWithin_72 at h
  refine uu_iload dX3_isWithin_72 (List.mem_of_getElem? (i := 6) rfl) ?_
  refine uu_iload dX3_isWithin_74 (List.mem_of_getElem? (i := 4) rfl) ?_
  refine uu_icmp_ne (tgt := 81) dX3_isWithin_76 (by decide) (fun c1 => ?_) (fun c1 => ?_)
  · replace h := uu_neg c1 h
    refine uu_iinc (v := x5 + 1) dX3_isWithin_81 (k := 5) rfl rfl (by decide) rfl ?_
    refine uu_goto (tgt := 15) dX3_isWithin_84 (by decide) ?_
    refine uu_lv [1, 2, 3, 4, 5, 0] (lv' := [(0, .ref (B + k0)), (1, .int x1), (2, .ref (B + k2)), (3, .int x3), (4, .int x4), (5, .int (x5 + 1))]) rfl ?_
    exact hK15 k0 x1 k2 x3 x4 (x5 + 1) hk0 hk2 _ _ h
  · replace h := uu_pos c1 h
    refine uu_iconst (v := 1) dX3_isWithin_79 (by decide) ?_
    have hr := Option.some.inj h
    subst hr
    exact uu_zret (x := bI true) rfl (bI_z _) dX3_isWithin_80
def fb_X3_isWithin_32 (K15 : Nat → Int32 → Nat → Int32 → Int32 → Int32 → uS → Option Bool) (K32 : Nat → Int32 → Nat → Int32 → Int32 → Int32 → Int32 → uS → Option Bool) (k0 : Nat) (x1 : Int32) (k2 : Nat) (x3 : Int32) (x4 : Int32) (x5 : Int32) (x6 : Int32) (s : uS) : Option Bool := if x4 ≤ x6 then (fb_X3_isWithin_72 K15 k0 x1 k2 x3 x4 x5 x6 s) else ((iget 21 s (k0 + 1) (x5 + x6)).bind fun v2 => (iget 20 s (k2 + 2) x3).bind fun v4 => (iget 21 s (k2 + 1) (v4 + x6)).bind fun v6 => if v2 = v6 then (K32 k0 x1 k2 x3 x4 x5 (x6 + 1) s) else (fb_X3_isWithin_72 K15 k0 x1 k2 x3 x4 x5 x6 s))
set_option maxRecDepth 100000 in
set_option maxHeartbeats 4000000 in
theorem xb_X3_isWithin_32 {l : Launch} {D : va_G} {A : Nat → ClassId} {B : Nat} {Z : State → Heap → Prop} {vF : Value} (uk : uK B Z vF) {K15 : Nat → Int32 → Nat → Int32 → Int32 → Int32 → uS → Option Bool} {K32 : Nat → Int32 → Nat → Int32 → Int32 → Int32 → Int32 → uS → Option Bool} (hK15 : ∀ (k0 : Nat) (x1 : Int32) (k2 : Nat) (x3 : Int32) (x4 : Int32) (x5 : Int32) (hk0 : uSo k0 9) (hk2 : uSo k2 9) (s : uS) (r : Bool), K15 k0 x1 k2 x3 x4 x5 s = some r → GU l D A B Z mX3_isWithin 1 (s, some (.int (bI r))) s 15 [(0, .ref (B + k0)), (1, .int x1), (2, .ref (B + k2)), (3, .int x3), (4, .int x4), (5, .int x5)] []) (hK32 : ∀ (k0 : Nat) (x1 : Int32) (k2 : Nat) (x3 : Int32) (x4 : Int32) (x5 : Int32) (x6 : Int32) (hk0 : uSo k0 9) (hk2 : uSo k2 9) (s : uS) (r : Bool), K32 k0 x1 k2 x3 x4 x5 x6 s = some r → GU l D A B Z mX3_isWithin 1 (s, some (.int (bI r))) s 32 [(0, .ref (B + k0)), (1, .int x1), (2, .ref (B + k2)), (3, .int x3), (4, .int x4), (5, .int x5), (6, .int x6)] []) {k0 : Nat} {x1 : Int32} {k2 : Nat} {x3 : Int32} {x4 : Int32} {x5 : Int32} {x6 : Int32} {s : uS} {r : Bool} (hk0 : uSo k0 9) (hk2 : uSo k2 9) (h : fb_X3_isWithin_32 K15 K32 k0 x1 k2 x3 x4 x5 x6 s = some r) : GU l D A B Z mX3_isWithin 1 (s, some (.int (bI r))) s 32 [(0, .ref (B + k0)), (1, .int x1), (2, .ref (B + k2)), (3, .int x3), (4, .int x4), (5, .int x5), (6, .int x6)] [] := by
  unfold fb_X3_isWithin_32 at h
  refine uu_iload dX3_isWithin_32 (List.mem_of_getElem? (i := 6) rfl) ?_
  refine uu_iload dX3_isWithin_34 (List.mem_of_getElem? (i := 4) rfl) ?_
  refine uu_icmp_ge (tgt := 72) dX3_isWithin_36 (by decide) (fun c1 => ?_) (fun c1 => ?_)
  · replace h := uu_pos c1 h
    exact xb_X3_isWithin_72 uk hK15 hk0 hk2 h
  · replace h := uu_neg c1 h
    refine uu_aload_n dX3_isWithin_39 rfl (List.mem_of_getElem? (i := 0) rfl) ?_
    refine uu_getc (ci := 9) (N := 6) fX3_83 (by decide) hk0.is (by decide) (c := 1) (by decide) (k2 := k0 + 1) rfl dX3_isWithin_40 ?_
    refine uu_iload dX3_isWithin_43 (List.mem_of_getElem? (i := 5) rfl) ?_
    refine uu_iload dX3_isWithin_45 (List.mem_of_getElem? (i := 6) rfl) ?_
    refine uu_iadd dX3_isWithin_47 ?_
    obtain ⟨v2, e3, h⟩ := uu_ob h
    refine uu_bald e3 dX3_isWithin_48 ?_
    refine uu_aload_n dX3_isWithin_49 rfl (List.mem_of_getElem? (i := 2) rfl) ?_
    refine uu_getc (ci := 9) (N := 6) fX3_83 (by decide) hk2.is (by decide) (c := 1) (by decide) (k2 := k2 + 1) rfl dX3_isWithin_50 ?_
    refine uu_aload_n dX3_isWithin_53 rfl (List.mem_of_getElem? (i := 2) rfl) ?_
    refine uu_getc (ci := 9) (N := 6) fX3_87 (by decide) hk2.is (by decide) (c := 2) (by decide) (k2 := k2 + 2) rfl dX3_isWithin_54 ?_
    refine uu_iload_n dX3_isWithin_57 rfl (List.mem_of_getElem? (i := 3) rfl) ?_
    obtain ⟨v4, e5, h⟩ := uu_ob h
    refine uu_iald e5 dX3_isWithin_58 ?_
    refine uu_iload dX3_isWithin_59 (List.mem_of_getElem? (i := 6) rfl) ?_
    refine uu_iadd dX3_isWithin_61 ?_
    obtain ⟨v6, e7, h⟩ := uu_ob h
    refine uu_bald e7 dX3_isWithin_62 ?_
    refine uu_icmp_ne (tgt := 72) dX3_isWithin_63 (by decide) (fun c8 => ?_) (fun c8 => ?_)
    · replace h := uu_neg c8 h
      exact xb_X3_isWithin_72 uk hK15 hk0 hk2 h
    · replace h := uu_pos c8 h
      refine uu_iinc (v := x6 + 1) dX3_isWithin_66 (k := 6) rfl rfl (by decide) rfl ?_
      refine uu_goto (tgt := 32) dX3_isWithin_69 (by decide) ?_
      refine uu_lv [1, 2, 3, 4, 5, 6, 0] (lv' := [(0, .ref (B + k0)), (1, .int x1), (2, .ref (B + k2)), (3, .int x3), (4, .int x4), (5, .int x5), (6, .int (x6 + 1))]) rfl ?_
      exact hK32 k0 x1 k2 x3 x4 x5 (x6 + 1) hk0 hk2 _ _ h
def fn_X3_isWithin_32 (K15 : Nat → Int32 → Nat → Int32 → Int32 → Int32 → uS → Option Bool) : Nat → Nat → Int32 → Nat → Int32 → Int32 → Int32 → Int32 → uS → Option Bool
  | 0 => fun _ _ _ _ _ _ _ _ => none
  | n + 1 => fb_X3_isWithin_32 K15 (fn_X3_isWithin_32 K15 n)
set_option maxRecDepth 100000 in
set_option maxHeartbeats 4000000 in
theorem xn_X3_isWithin_32 {l : Launch} {D : va_G} {A : Nat → ClassId} {B : Nat} {Z : State → Heap → Prop} {vF : Value} (uk : uK B Z vF) {K15 : Nat → Int32 → Nat → Int32 → Int32 → Int32 → uS → Option Bool} (hK15 : ∀ (k0 : Nat) (x1 : Int32) (k2 : Nat) (x3 : Int32) (x4 : Int32) (x5 : Int32) (hk0 : uSo k0 9) (hk2 : uSo k2 9) (s : uS) (r : Bool), K15 k0 x1 k2 x3 x4 x5 s = some r → GU l D A B Z mX3_isWithin 1 (s, some (.int (bI r))) s 15 [(0, .ref (B + k0)), (1, .int x1), (2, .ref (B + k2)), (3, .int x3), (4, .int x4), (5, .int x5)] []) : ∀ (n : Nat) (k0 : Nat) (x1 : Int32) (k2 : Nat) (x3 : Int32) (x4 : Int32) (x5 : Int32) (x6 : Int32) (hk0 : uSo k0 9) (hk2 : uSo k2 9) (s : uS) (r : Bool), fn_X3_isWithin_32 K15 n k0 x1 k2 x3 x4 x5 x6 s = some r → GU l D A B Z mX3_isWithin 1 (s, some (.int (bI r))) s 32 [(0, .ref (B + k0)), (1, .int x1), (2, .ref (B + k2)), (3, .int x3), (4, .int x4), (5, .int x5), (6, .int x6)] [] := by
  intro n
  induction n with
  | zero => intro k0 x1 k2 x3 x4 x5 x6 hk0 hk2 s r h
            cases h
  | succ n ih => intro k0 x1 k2 x3 x4 x5 x6 hk0 hk2 s r h
                 exact xb_X3_isWithin_32 uk hK15 ih hk0 hk2 h
def fb_X3_isWithin_15 (K15 : Nat → Int32 → Nat → Int32 → Int32 → Int32 → uS → Option Bool) (k0 : Nat) (x1 : Int32) (k2 : Nat) (x3 : Int32) (x4 : Int32) (x5 : Int32) (s : uS) : Option Bool := (iget 20 s (k0 + 3) x1).bind fun v1 => if v1 < (x5 + x4) then (some false) else (fn_X3_isWithin_32 K15 uFu k0 x1 k2 x3 x4 x5 0 s)
set_option maxRecDepth 100000 in
set_option maxHeartbeats 4000000 in
theorem xb_X3_isWithin_15 {l : Launch} {D : va_G} {A : Nat → ClassId} {B : Nat} {Z : State → Heap → Prop} {vF : Value} (uk : uK B Z vF) {K15 : Nat → Int32 → Nat → Int32 → Int32 → Int32 → uS → Option Bool} (hK15 : ∀ (k0 : Nat) (x1 : Int32) (k2 : Nat) (x3 : Int32) (x4 : Int32) (x5 : Int32) (hk0 : uSo k0 9) (hk2 : uSo k2 9) (s : uS) (r : Bool), K15 k0 x1 k2 x3 x4 x5 s = some r → GU l D A B Z mX3_isWithin 1 (s, some (.int (bI r))) s 15 [(0, .ref (B + k0)), (1, .int x1), (2, .ref (B + k2)), (3, .int x3), (4, .int x4), (5, .int x5)] []) {k0 : Nat} {x1 : Int32} {k2 : Nat} {x3 : Int32} {x4 : Int32} {x5 : Int32} {s : uS} {r : Bool} (hk0 : uSo k0 9) (hk2 : uSo k2 9) (h : fb_X3_isWithin_15 K15 k0 x1 k2 x3 x4 x5 s = some r) : GU l D A B Z mX3_isWithin 1 (s, some (.int (bI r))) s 15 [(0, .ref (B + k0)), (1, .int x1), (2, .ref (B + k2)), (3, .int x3), (4, .int x4), (5, .int x5)] [] := by
  unfold fb_X3_isWithin_15 at h
  refine uu_iload dX3_isWithin_15 (List.mem_of_getElem? (i := 5) rfl) ?_
  refine uu_iload dX3_isWithin_17 (List.mem_of_getElem? (i := 4) rfl) ?_
  refine uu_iadd dX3_isWithin_19 ?_
  refine uu_aload_n dX3_isWithin_20 rfl (List.mem_of_getElem? (i := 0) rfl) ?_
  refine uu_getc (ci := 9) (N := 6) fX3_94 (by decide) hk0.is (by decide) (c := 3) (by decide) (k2 := k0 + 3) rfl dX3_isWithin_21 ?_
  refine uu_iload_n dX3_isWithin_24 rfl (List.mem_of_getElem? (i := 1) rfl) ?_
  obtain ⟨v1, e2, h⟩ := uu_ob h
  refine uu_iald e2 dX3_isWithin_25 ?_
  refine uu_icmp_gt (tgt := 87) dX3_isWithin_26 (by decide) (fun c3 => ?_) (fun c3 => ?_)
  · replace h := uu_pos c3 h
    refine uu_iconst (v := 0) dX3_isWithin_87 (by decide) ?_
    have hr := Option.some.inj h
    subst hr
    exact uu_zret (x := bI false) rfl (bI_z _) dX3_isWithin_88
  · replace h := uu_neg c3 h
    refine uu_iconst (v := 0) dX3_isWithin_29 (by decide) ?_
    refine uu_istore dX3_isWithin_30 (by decide) rfl ?_
    refine uu_lv [1, 2, 3, 4, 5, 6, 0] (lv' := [(0, .ref (B + k0)), (1, .int x1), (2, .ref (B + k2)), (3, .int x3), (4, .int x4), (5, .int x5), (6, .int 0)]) rfl ?_
    exact xn_X3_isWithin_32 uk hK15 _ _ _ _ _ _ _ _ hk0 hk2 _ _ h
def fn_X3_isWithin_15  : Nat → Nat → Int32 → Nat → Int32 → Int32 → Int32 → uS → Option Bool
  | 0 => fun _ _ _ _ _ _ _ => none
  | n + 1 => fb_X3_isWithin_15 (fn_X3_isWithin_15  n)
set_option maxRecDepth 100000 in
set_option maxHeartbeats 4000000 in
theorem xn_X3_isWithin_15 {l : Launch} {D : va_G} {A : Nat → ClassId} {B : Nat} {Z : State → Heap → Prop} {vF : Value} (uk : uK B Z vF)   : ∀ (n : Nat) (k0 : Nat) (x1 : Int32) (k2 : Nat) (x3 : Int32) (x4 : Int32) (x5 : Int32) (hk0 : uSo k0 9) (hk2 : uSo k2 9) (s : uS) (r : Bool), fn_X3_isWithin_15  n k0 x1 k2 x3 x4 x5 s = some r → GU l D A B Z mX3_isWithin 1 (s, some (.int (bI r))) s 15 [(0, .ref (B + k0)), (1, .int x1), (2, .ref (B + k2)), (3, .int x3), (4, .int x4), (5, .int x5)] [] := by
  intro n
  induction n with
  | zero => intro k0 x1 k2 x3 x4 x5 hk0 hk2 s r h
            cases h
  | succ n ih => intro k0 x1 k2 x3 x4 x5 hk0 hk2 s r h
                 exact xb_X3_isWithin_15 uk ih hk0 hk2 h
def fn_X3_isWithin (k0 : Nat) (x1 : Int32) (k2 : Nat) (x3 : Int32) (s : uS) : Option Bool := (fn_X9_lengthOf k2 x3 s).bind fun v1 => (iget 20 s (k0 + 2) x1).bind fun v3 => fn_X3_isWithin_15 uFu k0 x1 k2 x3 v1 v3 s
set_option maxRecDepth 100000 in
set_option maxHeartbeats 4000000 in
theorem xc_X3_isWithin {l : Launch} {D : va_G} {A : Nat → ClassId} {B : Nat} {Z : State → Heap → Prop} {vF : Value} (uk : uK B Z vF) {k0 : Nat} {x1 : Int32} {k2 : Nat} {x3 : Int32} {s : uS} {r : Bool} (hk0 : uSo k0 9) (hk2 : uSo k2 9) (h : fn_X3_isWithin k0 x1 k2 x3 s = some r) : CU l D A B Z 1 mX3_isWithin s [.ref (B + k0), .int x1, .ref (B + k2), .int x3] (s, some (.int (bI r))) := by
  unfold fn_X3_isWithin at h
  refine cu_of rfl uk.1.1 (Nat.le_of_ble_eq_true rfl) ?_
  show GU _ _ _ _ _ _ _ _ _ 0 [(0, .ref (B + k0)), (1, .int x1), (2, .ref (B + k2)), (3, .int x3)] []
  refine uu_aload_n dX3_isWithin_0 rfl (List.mem_of_getElem? (i := 2) rfl) ?_
  refine uu_iload_n dX3_isWithin_1 rfl (List.mem_of_getElem? (i := 3) rfl) ?_
  obtain ⟨v1, e2, h⟩ := uu_ob h
  refine uu_cv (d1 := 0) (k := k2) (ci := 9) (T := TX9) (N := 6) (As := [.int x3]) (st := []) (st' := [.int v1]) (xc_X9_lengthOf uk hk2 e2) hk2.is (by decide) rfl kX9_lengthOf lX3_71 sX9_lengthOf (by decide) (Nat.le_of_ble_eq_true rfl) dX3_isWithin_2 rfl ?_
  refine uu_istore dX3_isWithin_5 (by decide) rfl ?_
  refine uu_aload_n dX3_isWithin_7 rfl (List.mem_of_getElem? (i := 1) rfl) ?_
  refine uu_getc (ci := 9) (N := 6) fX3_87 (by decide) hk0.is (by decide) (c := 2) (by decide) (k2 := k0 + 2) rfl dX3_isWithin_8 ?_
  refine uu_iload_n dX3_isWithin_11 rfl (List.mem_of_getElem? (i := 2) rfl) ?_
  obtain ⟨v3, e4, h⟩ := uu_ob h
  refine uu_iald e4 dX3_isWithin_12 ?_
  refine uu_istore dX3_isWithin_13 (by decide) rfl ?_
  refine uu_lv [2, 3, 4, 5, 1, 0] (lv' := [(0, .ref (B + k0)), (1, .int x1), (2, .ref (B + k2)), (3, .int x3), (4, .int v1), (5, .int v3)]) rfl ?_
  exact xn_X3_isWithin_15 uk  _ _ _ _ _ _ _ hk0 hk2 _ _ h
abbrev mX3_isPattern : hM := (yX3_isPattern, cX3_isPattern, 15, (some (.boolean)))
theorem dX3_isPattern_261 : decode cX3_isPattern 261 = .ok (.iload 7, 2) := by decide +kernel
theorem dX3_isPattern_263 : decode cX3_isPattern 263 = .ok (.iload 5, 2) := by decide +kernel
theorem dX3_isPattern_265 : decode cX3_isPattern 265 = .ok (.if_icmp .ne 18, 3) := by decide +kernel
theorem dX3_isPattern_283 : decode cX3_isPattern 283 = .ok (.iconst 0, 1) := by decide +kernel
theorem dX3_isPattern_284 : decode cX3_isPattern 284 = .ok (.ireturn, 1) := by decide +kernel
theorem dX3_isPattern_268 : decode cX3_isPattern 268 = .ok (.iload 6, 2) := by decide +kernel
theorem dX3_isPattern_270 : decode cX3_isPattern 270 = .ok (.aload_n 0, 1) := by decide +kernel
theorem dX3_isPattern_271 : decode cX3_isPattern 271 = .ok (.getfield 94, 3) := by decide +kernel
theorem dX3_isPattern_274 : decode cX3_isPattern 274 = .ok (.iload_n 1, 1) := by decide +kernel
theorem dX3_isPattern_275 : decode cX3_isPattern 275 = .ok (.iaload, 1) := by decide +kernel
theorem dX3_isPattern_276 : decode cX3_isPattern 276 = .ok (.if_icmp .ne 7, 3) := by decide +kernel
theorem dX3_isPattern_279 : decode cX3_isPattern 279 = .ok (.iconst 1, 1) := by decide +kernel
theorem dX3_isPattern_280 : decode cX3_isPattern 280 = .ok (.goto 4, 3) := by decide +kernel
theorem dX3_isPattern_238 : decode cX3_isPattern 238 = .ok (.iload 7, 2) := by decide +kernel
theorem dX3_isPattern_240 : decode cX3_isPattern 240 = .ok (.iload 5, 2) := by decide +kernel
theorem dX3_isPattern_242 : decode cX3_isPattern 242 = .ok (.if_icmp .ge 19, 3) := by decide +kernel
theorem dX3_isPattern_245 : decode cX3_isPattern 245 = .ok (.aload 4, 2) := by decide +kernel
theorem dX3_isPattern_247 : decode cX3_isPattern 247 = .ok (.iload 7, 2) := by decide +kernel
theorem dX3_isPattern_249 : decode cX3_isPattern 249 = .ok (.baload, 1) := by decide +kernel
theorem dX3_isPattern_250 : decode cX3_isPattern 250 = .ok (.bipush 42, 2) := by decide +kernel
theorem dX3_isPattern_252 : decode cX3_isPattern 252 = .ok (.if_icmp .ne 9, 3) := by decide +kernel
theorem dX3_isPattern_255 : decode cX3_isPattern 255 = .ok (.iinc 7 1, 3) := by decide +kernel
theorem dX3_isPattern_258 : decode cX3_isPattern 258 = .ok (.goto (-20), 3) := by decide +kernel
theorem dX3_isPattern_199 : decode cX3_isPattern 199 = .ok (.iload 13, 2) := by decide +kernel
theorem dX3_isPattern_201 : decode cX3_isPattern 201 = .ok (.iconst 1, 1) := by decide +kernel
theorem dX3_isPattern_202 : decode cX3_isPattern 202 = .ok (.iadd, 1) := by decide +kernel
theorem dX3_isPattern_203 : decode cX3_isPattern 203 = .ok (.istore 7, 2) := by decide +kernel
theorem dX3_isPattern_205 : decode cX3_isPattern 205 = .ok (.iinc 6 1, 3) := by decide +kernel
theorem dX3_isPattern_208 : decode cX3_isPattern 208 = .ok (.goto 24, 3) := by decide +kernel
theorem dX3_isPattern_232 : decode cX3_isPattern 232 = .ok (.iinc 11 1, 3) := by decide +kernel
theorem dX3_isPattern_235 : decode cX3_isPattern 235 = .ok (.goto (-178), 3) := by decide +kernel
theorem dX3_isPattern_211 : decode cX3_isPattern 211 = .ok (.iload 8, 2) := by decide +kernel
theorem dX3_isPattern_213 : decode cX3_isPattern 213 = .ok (.ifCond .lt 17, 3) := by decide +kernel
theorem dX3_isPattern_230 : decode cX3_isPattern 230 = .ok (.iconst 0, 1) := by decide +kernel
theorem dX3_isPattern_231 : decode cX3_isPattern 231 = .ok (.ireturn, 1) := by decide +kernel
theorem dX3_isPattern_216 : decode cX3_isPattern 216 = .ok (.iinc 9 1, 3) := by decide +kernel
theorem dX3_isPattern_219 : decode cX3_isPattern 219 = .ok (.iload 9, 2) := by decide +kernel
theorem dX3_isPattern_221 : decode cX3_isPattern 221 = .ok (.istore 6, 2) := by decide +kernel
theorem dX3_isPattern_223 : decode cX3_isPattern 223 = .ok (.iload 8, 2) := by decide +kernel
theorem dX3_isPattern_225 : decode cX3_isPattern 225 = .ok (.istore 7, 2) := by decide +kernel
theorem dX3_isPattern_227 : decode cX3_isPattern 227 = .ok (.goto 5, 3) := by decide +kernel
theorem dX3_isPattern_172 : decode cX3_isPattern 172 = .ok (.iload 14, 2) := by decide +kernel
theorem dX3_isPattern_174 : decode cX3_isPattern 174 = .ok (.ifCond .ne 25, 3) := by decide +kernel
theorem dX3_isPattern_177 : decode cX3_isPattern 177 = .ok (.iload 7, 2) := by decide +kernel
theorem dX3_isPattern_179 : decode cX3_isPattern 179 = .ok (.iload 5, 2) := by decide +kernel
theorem dX3_isPattern_181 : decode cX3_isPattern 181 = .ok (.if_icmp .ge 30, 3) := by decide +kernel
theorem dX3_isPattern_184 : decode cX3_isPattern 184 = .ok (.aload 4, 2) := by decide +kernel
theorem dX3_isPattern_186 : decode cX3_isPattern 186 = .ok (.iload 13, 2) := by decide +kernel
theorem dX3_isPattern_188 : decode cX3_isPattern 188 = .ok (.baload, 1) := by decide +kernel
theorem dX3_isPattern_189 : decode cX3_isPattern 189 = .ok (.aload_n 0, 1) := by decide +kernel
theorem dX3_isPattern_190 : decode cX3_isPattern 190 = .ok (.getfield 83, 3) := by decide +kernel
theorem dX3_isPattern_193 : decode cX3_isPattern 193 = .ok (.iload 6, 2) := by decide +kernel
theorem dX3_isPattern_195 : decode cX3_isPattern 195 = .ok (.baload, 1) := by decide +kernel
theorem dX3_isPattern_196 : decode cX3_isPattern 196 = .ok (.if_icmp .ne 15, 3) := by decide +kernel
theorem dX3_isPattern_139 : decode cX3_isPattern 139 = .ok (.istore 14, 2) := by decide +kernel
theorem dX3_isPattern_141 : decode cX3_isPattern 141 = .ok (.iload 7, 2) := by decide +kernel
theorem dX3_isPattern_143 : decode cX3_isPattern 143 = .ok (.iload 5, 2) := by decide +kernel
theorem dX3_isPattern_145 : decode cX3_isPattern 145 = .ok (.if_icmp .ge 27, 3) := by decide +kernel
theorem dX3_isPattern_148 : decode cX3_isPattern 148 = .ok (.aload 4, 2) := by decide +kernel
theorem dX3_isPattern_150 : decode cX3_isPattern 150 = .ok (.iload 7, 2) := by decide +kernel
theorem dX3_isPattern_152 : decode cX3_isPattern 152 = .ok (.baload, 1) := by decide +kernel
theorem dX3_isPattern_153 : decode cX3_isPattern 153 = .ok (.bipush 42, 2) := by decide +kernel
theorem dX3_isPattern_155 : decode cX3_isPattern 155 = .ok (.if_icmp .ne 17, 3) := by decide +kernel
theorem dX3_isPattern_158 : decode cX3_isPattern 158 = .ok (.iinc 7 1, 3) := by decide +kernel
theorem dX3_isPattern_161 : decode cX3_isPattern 161 = .ok (.iload 7, 2) := by decide +kernel
theorem dX3_isPattern_163 : decode cX3_isPattern 163 = .ok (.istore 8, 2) := by decide +kernel
theorem dX3_isPattern_165 : decode cX3_isPattern 165 = .ok (.iload 6, 2) := by decide +kernel
theorem dX3_isPattern_167 : decode cX3_isPattern 167 = .ok (.istore 9, 2) := by decide +kernel
theorem dX3_isPattern_169 : decode cX3_isPattern 169 = .ok (.goto 63, 3) := by decide +kernel
theorem dX3_isPattern_115 : decode cX3_isPattern 115 = .ok (.istore 13, 2) := by decide +kernel
theorem dX3_isPattern_117 : decode cX3_isPattern 117 = .ok (.iload 7, 2) := by decide +kernel
theorem dX3_isPattern_119 : decode cX3_isPattern 119 = .ok (.iload 5, 2) := by decide +kernel
theorem dX3_isPattern_121 : decode cX3_isPattern 121 = .ok (.if_icmp .ge 17, 3) := by decide +kernel
theorem dX3_isPattern_138 : decode cX3_isPattern 138 = .ok (.iconst 0, 1) := by decide +kernel
theorem dX3_isPattern_124 : decode cX3_isPattern 124 = .ok (.aload 4, 2) := by decide +kernel
theorem dX3_isPattern_126 : decode cX3_isPattern 126 = .ok (.iload 7, 2) := by decide +kernel
theorem dX3_isPattern_128 : decode cX3_isPattern 128 = .ok (.baload, 1) := by decide +kernel
theorem dX3_isPattern_129 : decode cX3_isPattern 129 = .ok (.bipush 63, 2) := by decide +kernel
theorem dX3_isPattern_131 : decode cX3_isPattern 131 = .ok (.if_icmp .ne 7, 3) := by decide +kernel
theorem dX3_isPattern_134 : decode cX3_isPattern 134 = .ok (.iconst 1, 1) := by decide +kernel
theorem dX3_isPattern_135 : decode cX3_isPattern 135 = .ok (.goto 4, 3) := by decide +kernel
theorem dX3_isPattern_99 : decode cX3_isPattern 99 = .ok (.istore 12, 2) := by decide +kernel
theorem dX3_isPattern_101 : decode cX3_isPattern 101 = .ok (.iload 12, 2) := by decide +kernel
theorem dX3_isPattern_103 : decode cX3_isPattern 103 = .ok (.ifCond .eq 10, 3) := by decide +kernel
theorem dX3_isPattern_113 : decode cX3_isPattern 113 = .ok (.iload 7, 2) := by decide +kernel
theorem dX3_isPattern_106 : decode cX3_isPattern 106 = .ok (.iload 7, 2) := by decide +kernel
theorem dX3_isPattern_108 : decode cX3_isPattern 108 = .ok (.iconst 1, 1) := by decide +kernel
theorem dX3_isPattern_109 : decode cX3_isPattern 109 = .ok (.iadd, 1) := by decide +kernel
theorem dX3_isPattern_110 : decode cX3_isPattern 110 = .ok (.goto 5, 3) := by decide +kernel
theorem dX3_isPattern_57 : decode cX3_isPattern 57 = .ok (.iload 11, 2) := by decide +kernel
theorem dX3_isPattern_59 : decode cX3_isPattern 59 = .ok (.iload 10, 2) := by decide +kernel
theorem dX3_isPattern_61 : decode cX3_isPattern 61 = .ok (.if_icmp .ge 177, 3) := by decide +kernel
theorem dX3_isPattern_64 : decode cX3_isPattern 64 = .ok (.iload 6, 2) := by decide +kernel
theorem dX3_isPattern_66 : decode cX3_isPattern 66 = .ok (.aload_n 0, 1) := by decide +kernel
theorem dX3_isPattern_67 : decode cX3_isPattern 67 = .ok (.getfield 94, 3) := by decide +kernel
theorem dX3_isPattern_70 : decode cX3_isPattern 70 = .ok (.iload_n 1, 1) := by decide +kernel
theorem dX3_isPattern_71 : decode cX3_isPattern 71 = .ok (.iaload, 1) := by decide +kernel
theorem dX3_isPattern_72 : decode cX3_isPattern 72 = .ok (.if_icmp .ge 166, 3) := by decide +kernel
theorem dX3_isPattern_75 : decode cX3_isPattern 75 = .ok (.iload 7, 2) := by decide +kernel
theorem dX3_isPattern_77 : decode cX3_isPattern 77 = .ok (.iconst 1, 1) := by decide +kernel
theorem dX3_isPattern_78 : decode cX3_isPattern 78 = .ok (.iadd, 1) := by decide +kernel
theorem dX3_isPattern_79 : decode cX3_isPattern 79 = .ok (.iload 5, 2) := by decide +kernel
theorem dX3_isPattern_81 : decode cX3_isPattern 81 = .ok (.if_icmp .ge 17, 3) := by decide +kernel
theorem dX3_isPattern_98 : decode cX3_isPattern 98 = .ok (.iconst 0, 1) := by decide +kernel
theorem dX3_isPattern_84 : decode cX3_isPattern 84 = .ok (.aload 4, 2) := by decide +kernel
theorem dX3_isPattern_86 : decode cX3_isPattern 86 = .ok (.iload 7, 2) := by decide +kernel
theorem dX3_isPattern_88 : decode cX3_isPattern 88 = .ok (.baload, 1) := by decide +kernel
theorem dX3_isPattern_89 : decode cX3_isPattern 89 = .ok (.bipush 92, 2) := by decide +kernel
theorem dX3_isPattern_91 : decode cX3_isPattern 91 = .ok (.if_icmp .ne 7, 3) := by decide +kernel
theorem dX3_isPattern_94 : decode cX3_isPattern 94 = .ok (.iconst 1, 1) := by decide +kernel
theorem dX3_isPattern_95 : decode cX3_isPattern 95 = .ok (.goto 4, 3) := by decide +kernel
theorem dX3_isPattern_0 : decode cX3_isPattern 0 = .ok (.aload_n 2, 1) := by decide +kernel
theorem dX3_isPattern_1 : decode cX3_isPattern 1 = .ok (.getfield 83, 3) := by decide +kernel
theorem dX3_isPattern_4 : decode cX3_isPattern 4 = .ok (.astore 4, 2) := by decide +kernel
theorem dX3_isPattern_6 : decode cX3_isPattern 6 = .ok (.aload_n 2, 1) := by decide +kernel
theorem dX3_isPattern_7 : decode cX3_isPattern 7 = .ok (.getfield 94, 3) := by decide +kernel
theorem dX3_isPattern_10 : decode cX3_isPattern 10 = .ok (.iload_n 3, 1) := by decide +kernel
theorem dX3_isPattern_11 : decode cX3_isPattern 11 = .ok (.iaload, 1) := by decide +kernel
theorem dX3_isPattern_12 : decode cX3_isPattern 12 = .ok (.istore 5, 2) := by decide +kernel
theorem dX3_isPattern_14 : decode cX3_isPattern 14 = .ok (.aload_n 0, 1) := by decide +kernel
theorem dX3_isPattern_15 : decode cX3_isPattern 15 = .ok (.getfield 87, 3) := by decide +kernel
theorem dX3_isPattern_18 : decode cX3_isPattern 18 = .ok (.iload_n 1, 1) := by decide +kernel
theorem dX3_isPattern_19 : decode cX3_isPattern 19 = .ok (.iaload, 1) := by decide +kernel
theorem dX3_isPattern_20 : decode cX3_isPattern 20 = .ok (.istore 6, 2) := by decide +kernel
theorem dX3_isPattern_22 : decode cX3_isPattern 22 = .ok (.aload_n 2, 1) := by decide +kernel
theorem dX3_isPattern_23 : decode cX3_isPattern 23 = .ok (.getfield 87, 3) := by decide +kernel
theorem dX3_isPattern_26 : decode cX3_isPattern 26 = .ok (.iload_n 3, 1) := by decide +kernel
theorem dX3_isPattern_27 : decode cX3_isPattern 27 = .ok (.iaload, 1) := by decide +kernel
theorem dX3_isPattern_28 : decode cX3_isPattern 28 = .ok (.istore 7, 2) := by decide +kernel
theorem dX3_isPattern_30 : decode cX3_isPattern 30 = .ok (.iconst (-1), 1) := by decide +kernel
theorem dX3_isPattern_31 : decode cX3_isPattern 31 = .ok (.istore 8, 2) := by decide +kernel
theorem dX3_isPattern_33 : decode cX3_isPattern 33 = .ok (.iload 6, 2) := by decide +kernel
theorem dX3_isPattern_35 : decode cX3_isPattern 35 = .ok (.istore 9, 2) := by decide +kernel
theorem dX3_isPattern_37 : decode cX3_isPattern 37 = .ok (.aload_n 0, 1) := by decide +kernel
theorem dX3_isPattern_38 : decode cX3_isPattern 38 = .ok (.iload_n 1, 1) := by decide +kernel
theorem dX3_isPattern_39 : decode cX3_isPattern 39 = .ok (.invokevirtual 71, 3) := by decide +kernel
theorem dX3_isPattern_42 : decode cX3_isPattern 42 = .ok (.iconst 2, 1) := by decide +kernel
theorem dX3_isPattern_43 : decode cX3_isPattern 43 = .ok (.iadd, 1) := by decide +kernel
theorem dX3_isPattern_44 : decode cX3_isPattern 44 = .ok (.aload_n 2, 1) := by decide +kernel
theorem dX3_isPattern_45 : decode cX3_isPattern 45 = .ok (.iload_n 3, 1) := by decide +kernel
theorem dX3_isPattern_46 : decode cX3_isPattern 46 = .ok (.invokevirtual 71, 3) := by decide +kernel
theorem dX3_isPattern_49 : decode cX3_isPattern 49 = .ok (.iconst 2, 1) := by decide +kernel
theorem dX3_isPattern_50 : decode cX3_isPattern 50 = .ok (.iadd, 1) := by decide +kernel
theorem dX3_isPattern_51 : decode cX3_isPattern 51 = .ok (.imul, 1) := by decide +kernel
theorem dX3_isPattern_52 : decode cX3_isPattern 52 = .ok (.istore 10, 2) := by decide +kernel
theorem dX3_isPattern_54 : decode cX3_isPattern 54 = .ok (.iconst 0, 1) := by decide +kernel
theorem dX3_isPattern_55 : decode cX3_isPattern 55 = .ok (.istore 11, 2) := by decide +kernel
def fb_X3_isPattern_261  (k0 : Nat) (x1 : Int32) (x5 : Int32) (x6 : Int32) (x7 : Int32) (s : uS) : Option Bool := if x7 = x5 then ((iget 20 s (k0 + 3) x1).bind fun v2 => if x6 = v2 then (some true) else (some false)) else (some false)
set_option maxRecDepth 100000 in
set_option maxHeartbeats 4000000 in
theorem xb_X3_isPattern_261 {l : Launch} {D : va_G} {A : Nat → ClassId} {B : Nat} {Z : State → Heap → Prop} {vF : Value} (uk : uK B Z vF)   {k0 : Nat} {x1 : Int32} {x5 : Int32} {x6 : Int32} {x7 : Int32} {s : uS} {r : Bool} (hk0 : uSo k0 9) (h : fb_X3_isPattern_261  k0 x1 x5 x6 x7 s = some r) : GU l D A B Z mX3_isPattern 1 (s, some (.int (bI r))) s 261 [(0, .ref (B + k0)), (1, .int x1), (5, .int x5), (6, .int x6), (7, .int x7)] [] := by
  unfold fb_X3_isPattern_261 at h
  refine uu_iload dX3_isPattern_261 (List.mem_of_getElem? (i := 4) rfl) ?_
  refine uu_iload dX3_isPattern_263 (List.mem_of_getElem? (i := 2) rfl) ?_
  refine uu_icmp_ne (tgt := 283) dX3_isPattern_265 (by decide) (fun c1 => ?_) (fun c1 => ?_)
  · replace h := uu_neg c1 h
    refine uu_iconst (v := 0) dX3_isPattern_283 (by decide) ?_
    have hr := Option.some.inj h
    subst hr
    exact uu_zret (x := bI false) rfl (bI_z _) dX3_isPattern_284
  · replace h := uu_pos c1 h
    refine uu_iload dX3_isPattern_268 (List.mem_of_getElem? (i := 3) rfl) ?_
    refine uu_aload_n dX3_isPattern_270 rfl (List.mem_of_getElem? (i := 0) rfl) ?_
    refine uu_getc (ci := 9) (N := 6) fX3_94 (by decide) hk0.is (by decide) (c := 3) (by decide) (k2 := k0 + 3) rfl dX3_isPattern_271 ?_
    refine uu_iload_n dX3_isPattern_274 rfl (List.mem_of_getElem? (i := 1) rfl) ?_
    obtain ⟨v2, e3, h⟩ := uu_ob h
    refine uu_iald e3 dX3_isPattern_275 ?_
    refine uu_icmp_ne (tgt := 283) dX3_isPattern_276 (by decide) (fun c4 => ?_) (fun c4 => ?_)
    · replace h := uu_neg c4 h
      refine uu_iconst (v := 0) dX3_isPattern_283 (by decide) ?_
      have hr := Option.some.inj h
      subst hr
      exact uu_zret (x := bI false) rfl (bI_z _) dX3_isPattern_284
    · replace h := uu_pos c4 h
      refine uu_iconst (v := 1) dX3_isPattern_279 (by decide) ?_
      refine uu_goto (tgt := 284) dX3_isPattern_280 (by decide) ?_
      have hr := Option.some.inj h
      subst hr
      exact uu_zret (x := bI true) rfl (bI_z _) dX3_isPattern_284
def fb_X3_isPattern_238 (K238 : Nat → Int32 → Nat → Int32 → Int32 → Int32 → uS → Option Bool) (k0 : Nat) (x1 : Int32) (k4 : Nat) (x5 : Int32) (x6 : Int32) (x7 : Int32) (s : uS) : Option Bool := if x5 ≤ x7 then (fb_X3_isPattern_261 k0 x1 x5 x6 x7 s) else ((iget 21 s k4 x7).bind fun v2 => if v2 = 42 then (K238 k0 x1 k4 x5 x6 (x7 + 1) s) else (fb_X3_isPattern_261 k0 x1 x5 x6 x7 s))
set_option maxRecDepth 100000 in
set_option maxHeartbeats 4000000 in
theorem xb_X3_isPattern_238 {l : Launch} {D : va_G} {A : Nat → ClassId} {B : Nat} {Z : State → Heap → Prop} {vF : Value} (uk : uK B Z vF) {K238 : Nat → Int32 → Nat → Int32 → Int32 → Int32 → uS → Option Bool} (hK238 : ∀ (k0 : Nat) (x1 : Int32) (k4 : Nat) (x5 : Int32) (x6 : Int32) (x7 : Int32) (hk0 : uSo k0 9) (s : uS) (r : Bool), K238 k0 x1 k4 x5 x6 x7 s = some r → GU l D A B Z mX3_isPattern 1 (s, some (.int (bI r))) s 238 [(0, .ref (B + k0)), (1, .int x1), (4, .ref (B + k4)), (5, .int x5), (6, .int x6), (7, .int x7)] []) {k0 : Nat} {x1 : Int32} {k4 : Nat} {x5 : Int32} {x6 : Int32} {x7 : Int32} {s : uS} {r : Bool} (hk0 : uSo k0 9) (h : fb_X3_isPattern_238 K238 k0 x1 k4 x5 x6 x7 s = some r) : GU l D A B Z mX3_isPattern 1 (s, some (.int (bI r))) s 238 [(0, .ref (B + k0)), (1, .int x1), (4, .ref (B + k4)), (5, .int x5), (6, .int x6), (7, .int x7)] [] := by
  unfold fb_X3_isPattern_238 at h
  refine uu_iload dX3_isPattern_238 (List.mem_of_getElem? (i := 5) rfl) ?_
  refine uu_iload dX3_isPattern_240 (List.mem_of_getElem? (i := 3) rfl) ?_
  refine uu_icmp_ge (tgt := 261) dX3_isPattern_242 (by decide) (fun c1 => ?_) (fun c1 => ?_)
  · replace h := uu_pos c1 h
    refine uu_lv [0, 1, 3, 4, 5] (lv' := [(0, .ref (B + k0)), (1, .int x1), (5, .int x5), (6, .int x6), (7, .int x7)]) rfl ?_
    exact xb_X3_isPattern_261 uk hk0 h
  · replace h := uu_neg c1 h
    refine uu_aload dX3_isPattern_245 (List.mem_of_getElem? (i := 2) rfl) ?_
    refine uu_iload dX3_isPattern_247 (List.mem_of_getElem? (i := 5) rfl) ?_
    obtain ⟨v2, e3, h⟩ := uu_ob h
    refine uu_bald e3 dX3_isPattern_249 ?_
    refine uu_bipush (v := 42) dX3_isPattern_250 (by decide) ?_
    refine uu_icmp_ne (tgt := 261) dX3_isPattern_252 (by decide) (fun c4 => ?_) (fun c4 => ?_)
    · replace h := uu_neg c4 h
      refine uu_lv [0, 1, 3, 4, 5] (lv' := [(0, .ref (B + k0)), (1, .int x1), (5, .int x5), (6, .int x6), (7, .int x7)]) rfl ?_
      exact xb_X3_isPattern_261 uk hk0 h
    · replace h := uu_pos c4 h
      refine uu_iinc (v := x7 + 1) dX3_isPattern_255 (k := 5) rfl rfl (by decide) rfl ?_
      refine uu_goto (tgt := 238) dX3_isPattern_258 (by decide) ?_
      refine uu_lv [1, 2, 3, 4, 5, 0] (lv' := [(0, .ref (B + k0)), (1, .int x1), (4, .ref (B + k4)), (5, .int x5), (6, .int x6), (7, .int (x7 + 1))]) rfl ?_
      exact hK238 k0 x1 k4 x5 x6 (x7 + 1) hk0 _ _ h
def fn_X3_isPattern_238  : Nat → Nat → Int32 → Nat → Int32 → Int32 → Int32 → uS → Option Bool
  | 0 => fun _ _ _ _ _ _ _ => none
  | n + 1 => fb_X3_isPattern_238 (fn_X3_isPattern_238  n)
set_option maxRecDepth 100000 in
set_option maxHeartbeats 4000000 in
theorem xn_X3_isPattern_238 {l : Launch} {D : va_G} {A : Nat → ClassId} {B : Nat} {Z : State → Heap → Prop} {vF : Value} (uk : uK B Z vF)   : ∀ (n : Nat) (k0 : Nat) (x1 : Int32) (k4 : Nat) (x5 : Int32) (x6 : Int32) (x7 : Int32) (hk0 : uSo k0 9) (s : uS) (r : Bool), fn_X3_isPattern_238  n k0 x1 k4 x5 x6 x7 s = some r → GU l D A B Z mX3_isPattern 1 (s, some (.int (bI r))) s 238 [(0, .ref (B + k0)), (1, .int x1), (4, .ref (B + k4)), (5, .int x5), (6, .int x6), (7, .int x7)] [] := by
  intro n
  induction n with
  | zero => intro k0 x1 k4 x5 x6 x7 hk0 s r h
            cases h
  | succ n ih => intro k0 x1 k4 x5 x6 x7 hk0 s r h
                 exact xb_X3_isPattern_238 uk ih hk0 h
def fb_X3_isPattern_199 (K57 : Nat → Int32 → Nat → Int32 → Int32 → Int32 → Int32 → Int32 → Int32 → Int32 → uS → Option Bool) (k0 : Nat) (x1 : Int32) (k4 : Nat) (x5 : Int32) (x6 : Int32) (x8 : Int32) (x9 : Int32) (x10 : Int32) (x11 : Int32) (x13 : Int32) (s : uS) : Option Bool := K57 k0 x1 k4 x5 (x6 + 1) (x13 + 1) x8 x9 x10 (x11 + 1) s
set_option maxRecDepth 100000 in
set_option maxHeartbeats 4000000 in
theorem xb_X3_isPattern_199 {l : Launch} {D : va_G} {A : Nat → ClassId} {B : Nat} {Z : State → Heap → Prop} {vF : Value} (uk : uK B Z vF) {K57 : Nat → Int32 → Nat → Int32 → Int32 → Int32 → Int32 → Int32 → Int32 → Int32 → uS → Option Bool} (hK57 : ∀ (k0 : Nat) (x1 : Int32) (k4 : Nat) (x5 : Int32) (x6 : Int32) (x7 : Int32) (x8 : Int32) (x9 : Int32) (x10 : Int32) (x11 : Int32) (hk0 : uSo k0 9) (s : uS) (r : Bool), K57 k0 x1 k4 x5 x6 x7 x8 x9 x10 x11 s = some r → GU l D A B Z mX3_isPattern 1 (s, some (.int (bI r))) s 57 [(0, .ref (B + k0)), (1, .int x1), (4, .ref (B + k4)), (5, .int x5), (6, .int x6), (7, .int x7), (8, .int x8), (9, .int x9), (10, .int x10), (11, .int x11)] []) {k0 : Nat} {x1 : Int32} {k4 : Nat} {x5 : Int32} {x6 : Int32} {x8 : Int32} {x9 : Int32} {x10 : Int32} {x11 : Int32} {x13 : Int32} {s : uS} {r : Bool} (hk0 : uSo k0 9) (h : fb_X3_isPattern_199 K57 k0 x1 k4 x5 x6 x8 x9 x10 x11 x13 s = some r) : GU l D A B Z mX3_isPattern 1 (s, some (.int (bI r))) s 199 [(0, .ref (B + k0)), (1, .int x1), (4, .ref (B + k4)), (5, .int x5), (6, .int x6), (8, .int x8), (9, .int x9), (10, .int x10), (11, .int x11), (13, .int x13)] [] := by
  unfold fb_X3_isPattern_199 at h
  refine uu_iload dX3_isPattern_199 (List.mem_of_getElem? (i := 9) rfl) ?_
  refine uu_iconst (v := 1) dX3_isPattern_201 (by decide) ?_
  refine uu_iadd dX3_isPattern_202 ?_
  refine uu_istore dX3_isPattern_203 (by decide) rfl ?_
  refine uu_iinc (v := x6 + 1) dX3_isPattern_205 (k := 5) rfl rfl (by decide) rfl ?_
  refine uu_goto (tgt := 232) dX3_isPattern_208 (by decide) ?_
  refine uu_iinc (v := x11 + 1) dX3_isPattern_232 (k := 9) rfl rfl (by decide) rfl ?_
  refine uu_goto (tgt := 57) dX3_isPattern_235 (by decide) ?_
  refine uu_lv [3, 4, 5, 6, 1, 2, 7, 8, 9, 0] (lv' := [(0, .ref (B + k0)), (1, .int x1), (4, .ref (B + k4)), (5, .int x5), (6, .int (x6 + 1)), (7, .int (x13 + 1)), (8, .int x8), (9, .int x9), (10, .int x10), (11, .int (x11 + 1))]) rfl ?_
  exact hK57 k0 x1 k4 x5 (x6 + 1) (x13 + 1) x8 x9 x10 (x11 + 1) hk0 _ _ h
def fb_X3_isPattern_211 (K57 : Nat → Int32 → Nat → Int32 → Int32 → Int32 → Int32 → Int32 → Int32 → Int32 → uS → Option Bool) (k0 : Nat) (x1 : Int32) (k4 : Nat) (x5 : Int32) (x8 : Int32) (x9 : Int32) (x10 : Int32) (x11 : Int32) (s : uS) : Option Bool := if x8 < 0 then (some false) else (K57 k0 x1 k4 x5 (x9 + 1) x8 x8 (x9 + 1) x10 (x11 + 1) s)
set_option maxRecDepth 100000 in
set_option maxHeartbeats 4000000 in
theorem xb_X3_isPattern_211 {l : Launch} {D : va_G} {A : Nat → ClassId} {B : Nat} {Z : State → Heap → Prop} {vF : Value} (uk : uK B Z vF) {K57 : Nat → Int32 → Nat → Int32 → Int32 → Int32 → Int32 → Int32 → Int32 → Int32 → uS → Option Bool} (hK57 : ∀ (k0 : Nat) (x1 : Int32) (k4 : Nat) (x5 : Int32) (x6 : Int32) (x7 : Int32) (x8 : Int32) (x9 : Int32) (x10 : Int32) (x11 : Int32) (hk0 : uSo k0 9) (s : uS) (r : Bool), K57 k0 x1 k4 x5 x6 x7 x8 x9 x10 x11 s = some r → GU l D A B Z mX3_isPattern 1 (s, some (.int (bI r))) s 57 [(0, .ref (B + k0)), (1, .int x1), (4, .ref (B + k4)), (5, .int x5), (6, .int x6), (7, .int x7), (8, .int x8), (9, .int x9), (10, .int x10), (11, .int x11)] []) {k0 : Nat} {x1 : Int32} {k4 : Nat} {x5 : Int32} {x8 : Int32} {x9 : Int32} {x10 : Int32} {x11 : Int32} {s : uS} {r : Bool} (hk0 : uSo k0 9) (h : fb_X3_isPattern_211 K57 k0 x1 k4 x5 x8 x9 x10 x11 s = some r) : GU l D A B Z mX3_isPattern 1 (s, some (.int (bI r))) s 211 [(0, .ref (B + k0)), (1, .int x1), (4, .ref (B + k4)), (5, .int x5), (8, .int x8), (9, .int x9), (10, .int x10), (11, .int x11)] [] := by
  unfold fb_X3_isPattern_211 at h
  refine uu_iload dX3_isPattern_211 (List.mem_of_getElem? (i := 4) rfl) ?_
  refine uu_if_lt (tgt := 230) dX3_isPattern_213 (by decide) (fun c1 => ?_) (fun c1 => ?_)
  · replace h := uu_pos c1 h
    refine uu_iconst (v := 0) dX3_isPattern_230 (by decide) ?_
    have hr := Option.some.inj h
    subst hr
    exact uu_zret (x := bI false) rfl (bI_z _) dX3_isPattern_231
  · replace h := uu_neg c1 h
    refine uu_iinc (v := x9 + 1) dX3_isPattern_216 (k := 5) rfl rfl (by decide) rfl ?_
    refine uu_iload dX3_isPattern_219 (List.mem_of_getElem? (i := 0) rfl) ?_
    refine uu_istore dX3_isPattern_221 (by decide) rfl ?_
    refine uu_iload dX3_isPattern_223 (List.mem_of_getElem? (i := 6) rfl) ?_
    refine uu_istore dX3_isPattern_225 (by decide) rfl ?_
    refine uu_goto (tgt := 232) dX3_isPattern_227 (by decide) ?_
    refine uu_iinc (v := x11 + 1) dX3_isPattern_232 (k := 9) rfl rfl (by decide) rfl ?_
    refine uu_goto (tgt := 57) dX3_isPattern_235 (by decide) ?_
    refine uu_lv [4, 5, 6, 7, 2, 1, 8, 3, 9, 0] (lv' := [(0, .ref (B + k0)), (1, .int x1), (4, .ref (B + k4)), (5, .int x5), (6, .int (x9 + 1)), (7, .int x8), (8, .int x8), (9, .int (x9 + 1)), (10, .int x10), (11, .int (x11 + 1))]) rfl ?_
    exact hK57 k0 x1 k4 x5 (x9 + 1) x8 x8 (x9 + 1) x10 (x11 + 1) hk0 _ _ h
def fb_X3_isPattern_172 (K57 : Nat → Int32 → Nat → Int32 → Int32 → Int32 → Int32 → Int32 → Int32 → Int32 → uS → Option Bool) (k0 : Nat) (x1 : Int32) (k4 : Nat) (x5 : Int32) (x6 : Int32) (x7 : Int32) (x8 : Int32) (x9 : Int32) (x10 : Int32) (x11 : Int32) (x13 : Int32) (b14 : Bool) (s : uS) : Option Bool := if b14 = true then (fb_X3_isPattern_199 K57 k0 x1 k4 x5 x6 x8 x9 x10 x11 x13 s) else (if x5 ≤ x7 then (fb_X3_isPattern_211 K57 k0 x1 k4 x5 x8 x9 x10 x11 s) else ((iget 21 s k4 x13).bind fun v3 => (iget 21 s (k0 + 1) x6).bind fun v5 => if v3 = v5 then (fb_X3_isPattern_199 K57 k0 x1 k4 x5 x6 x8 x9 x10 x11 x13 s) else (fb_X3_isPattern_211 K57 k0 x1 k4 x5 x8 x9 x10 x11 s)))
set_option maxRecDepth 100000 in
set_option maxHeartbeats 4000000 in
theorem xb_X3_isPattern_172 {l : Launch} {D : va_G} {A : Nat → ClassId} {B : Nat} {Z : State → Heap → Prop} {vF : Value} (uk : uK B Z vF) {K57 : Nat → Int32 → Nat → Int32 → Int32 → Int32 → Int32 → Int32 → Int32 → Int32 → uS → Option Bool} (hK57 : ∀ (k0 : Nat) (x1 : Int32) (k4 : Nat) (x5 : Int32) (x6 : Int32) (x7 : Int32) (x8 : Int32) (x9 : Int32) (x10 : Int32) (x11 : Int32) (hk0 : uSo k0 9) (s : uS) (r : Bool), K57 k0 x1 k4 x5 x6 x7 x8 x9 x10 x11 s = some r → GU l D A B Z mX3_isPattern 1 (s, some (.int (bI r))) s 57 [(0, .ref (B + k0)), (1, .int x1), (4, .ref (B + k4)), (5, .int x5), (6, .int x6), (7, .int x7), (8, .int x8), (9, .int x9), (10, .int x10), (11, .int x11)] []) {k0 : Nat} {x1 : Int32} {k4 : Nat} {x5 : Int32} {x6 : Int32} {x7 : Int32} {x8 : Int32} {x9 : Int32} {x10 : Int32} {x11 : Int32} {x13 : Int32} {b14 : Bool} {s : uS} {r : Bool} (hk0 : uSo k0 9) (h : fb_X3_isPattern_172 K57 k0 x1 k4 x5 x6 x7 x8 x9 x10 x11 x13 b14 s = some r) : GU l D A B Z mX3_isPattern 1 (s, some (.int (bI r))) s 172 [(0, .ref (B + k0)), (1, .int x1), (4, .ref (B + k4)), (5, .int x5), (6, .int x6), (7, .int x7), (8, .int x8), (9, .int x9), (10, .int x10), (11, .int x11), (13, .int x13), (14, .int (bI b14))] [] := by
  unfold fb_X3_isPattern_172 at h
  refine uu_iload dX3_isPattern_172 (List.mem_of_getElem? (i := 11) rfl) ?_
  refine uu_ifb_ne (tgt := 199) dX3_isPattern_174 (by decide) (fun c1 => ?_) (fun c1 => ?_)
  · replace h := uu_pos c1 h
    refine uu_lv [0, 1, 2, 3, 4, 6, 7, 8, 9, 10] (lv' := [(0, .ref (B + k0)), (1, .int x1), (4, .ref (B + k4)), (5, .int x5), (6, .int x6), (8, .int x8), (9, .int x9), (10, .int x10), (11, .int x11), (13, .int x13)]) rfl ?_
    exact xb_X3_isPattern_199 uk hK57 hk0 h
  · replace h := uu_neg c1 h
    refine uu_iload dX3_isPattern_177 (List.mem_of_getElem? (i := 5) rfl) ?_
    refine uu_iload dX3_isPattern_179 (List.mem_of_getElem? (i := 3) rfl) ?_
    refine uu_icmp_ge (tgt := 211) dX3_isPattern_181 (by decide) (fun c2 => ?_) (fun c2 => ?_)
    · replace h := uu_pos c2 h
      refine uu_lv [0, 1, 2, 3, 6, 7, 8, 9] (lv' := [(0, .ref (B + k0)), (1, .int x1), (4, .ref (B + k4)), (5, .int x5), (8, .int x8), (9, .int x9), (10, .int x10), (11, .int x11)]) rfl ?_
      exact xb_X3_isPattern_211 uk hK57 hk0 h
    · replace h := uu_neg c2 h
      refine uu_aload dX3_isPattern_184 (List.mem_of_getElem? (i := 2) rfl) ?_
      refine uu_iload dX3_isPattern_186 (List.mem_of_getElem? (i := 10) rfl) ?_
      obtain ⟨v3, e4, h⟩ := uu_ob h
      refine uu_bald e4 dX3_isPattern_188 ?_
      refine uu_aload_n dX3_isPattern_189 rfl (List.mem_of_getElem? (i := 0) rfl) ?_
      refine uu_getc (ci := 9) (N := 6) fX3_83 (by decide) hk0.is (by decide) (c := 1) (by decide) (k2 := k0 + 1) rfl dX3_isPattern_190 ?_
      refine uu_iload dX3_isPattern_193 (List.mem_of_getElem? (i := 4) rfl) ?_
      obtain ⟨v5, e6, h⟩ := uu_ob h
      refine uu_bald e6 dX3_isPattern_195 ?_
      refine uu_icmp_ne (tgt := 211) dX3_isPattern_196 (by decide) (fun c7 => ?_) (fun c7 => ?_)
      · replace h := uu_neg c7 h
        refine uu_lv [0, 1, 2, 3, 6, 7, 8, 9] (lv' := [(0, .ref (B + k0)), (1, .int x1), (4, .ref (B + k4)), (5, .int x5), (8, .int x8), (9, .int x9), (10, .int x10), (11, .int x11)]) rfl ?_
        exact xb_X3_isPattern_211 uk hK57 hk0 h
      · replace h := uu_pos c7 h
        refine uu_lv [0, 1, 2, 3, 4, 6, 7, 8, 9, 10] (lv' := [(0, .ref (B + k0)), (1, .int x1), (4, .ref (B + k4)), (5, .int x5), (6, .int x6), (8, .int x8), (9, .int x9), (10, .int x10), (11, .int x11), (13, .int x13)]) rfl ?_
        exact xb_X3_isPattern_199 uk hK57 hk0 h
def fb_X3_isPattern_139 (K57 : Nat → Int32 → Nat → Int32 → Int32 → Int32 → Int32 → Int32 → Int32 → Int32 → uS → Option Bool) (k0 : Nat) (x1 : Int32) (k4 : Nat) (x5 : Int32) (x6 : Int32) (x7 : Int32) (x8 : Int32) (x9 : Int32) (x10 : Int32) (x11 : Int32) (x13 : Int32) (bs0 : Bool) (s : uS) : Option Bool := if x5 ≤ x7 then (fb_X3_isPattern_172 K57 k0 x1 k4 x5 x6 x7 x8 x9 x10 x11 x13 bs0 s) else ((iget 21 s k4 x7).bind fun v2 => if v2 = 42 then (K57 k0 x1 k4 x5 x6 (x7 + 1) (x7 + 1) x6 x10 (x11 + 1) s) else (fb_X3_isPattern_172 K57 k0 x1 k4 x5 x6 x7 x8 x9 x10 x11 x13 bs0 s))
set_option maxRecDepth 100000 in
set_option maxHeartbeats 4000000 in
theorem xb_X3_isPattern_139 {l : Launch} {D : va_G} {A : Nat → ClassId} {B : Nat} {Z : State → Heap → Prop} {vF : Value} (uk : uK B Z vF) {K57 : Nat → Int32 → Nat → Int32 → Int32 → Int32 → Int32 → Int32 → Int32 → Int32 → uS → Option Bool} (hK57 : ∀ (k0 : Nat) (x1 : Int32) (k4 : Nat) (x5 : Int32) (x6 : Int32) (x7 : Int32) (x8 : Int32) (x9 : Int32) (x10 : Int32) (x11 : Int32) (hk0 : uSo k0 9) (s : uS) (r : Bool), K57 k0 x1 k4 x5 x6 x7 x8 x9 x10 x11 s = some r → GU l D A B Z mX3_isPattern 1 (s, some (.int (bI r))) s 57 [(0, .ref (B + k0)), (1, .int x1), (4, .ref (B + k4)), (5, .int x5), (6, .int x6), (7, .int x7), (8, .int x8), (9, .int x9), (10, .int x10), (11, .int x11)] []) {k0 : Nat} {x1 : Int32} {k4 : Nat} {x5 : Int32} {x6 : Int32} {x7 : Int32} {x8 : Int32} {x9 : Int32} {x10 : Int32} {x11 : Int32} {x13 : Int32} {bs0 : Bool} {s : uS} {r : Bool} (hk0 : uSo k0 9) (h : fb_X3_isPattern_139 K57 k0 x1 k4 x5 x6 x7 x8 x9 x10 x11 x13 bs0 s = some r) : GU l D A B Z mX3_isPattern 1 (s, some (.int (bI r))) s 139 [(0, .ref (B + k0)), (1, .int x1), (4, .ref (B + k4)), (5, .int x5), (6, .int x6), (7, .int x7), (8, .int x8), (9, .int x9), (10, .int x10), (11, .int x11), (13, .int x13)] [.int (bI bs0)] := by
  unfold fb_X3_isPattern_139 at h
  refine uu_istore dX3_isPattern_139 (by decide) rfl ?_
  refine uu_iload dX3_isPattern_141 (List.mem_of_getElem? (i := 6) rfl) ?_
  refine uu_iload dX3_isPattern_143 (List.mem_of_getElem? (i := 4) rfl) ?_
  refine uu_icmp_ge (tgt := 172) dX3_isPattern_145 (by decide) (fun c1 => ?_) (fun c1 => ?_)
  · replace h := uu_pos c1 h
    refine uu_lv [1, 2, 3, 4, 5, 6, 7, 8, 9, 10, 11, 0] (lv' := [(0, .ref (B + k0)), (1, .int x1), (4, .ref (B + k4)), (5, .int x5), (6, .int x6), (7, .int x7), (8, .int x8), (9, .int x9), (10, .int x10), (11, .int x11), (13, .int x13), (14, .int (bI bs0))]) rfl ?_
    exact xb_X3_isPattern_172 uk hK57 hk0 h
  · replace h := uu_neg c1 h
    refine uu_aload dX3_isPattern_148 (List.mem_of_getElem? (i := 3) rfl) ?_
    refine uu_iload dX3_isPattern_150 (List.mem_of_getElem? (i := 6) rfl) ?_
    obtain ⟨v2, e3, h⟩ := uu_ob h
    refine uu_bald e3 dX3_isPattern_152 ?_
    refine uu_bipush (v := 42) dX3_isPattern_153 (by decide) ?_
    refine uu_icmp_ne (tgt := 172) dX3_isPattern_155 (by decide) (fun c4 => ?_) (fun c4 => ?_)
    · replace h := uu_neg c4 h
      refine uu_lv [1, 2, 3, 4, 5, 6, 7, 8, 9, 10, 11, 0] (lv' := [(0, .ref (B + k0)), (1, .int x1), (4, .ref (B + k4)), (5, .int x5), (6, .int x6), (7, .int x7), (8, .int x8), (9, .int x9), (10, .int x10), (11, .int x11), (13, .int x13), (14, .int (bI bs0))]) rfl ?_
      exact xb_X3_isPattern_172 uk hK57 hk0 h
    · replace h := uu_pos c4 h
      refine uu_iinc (v := x7 + 1) dX3_isPattern_158 (k := 6) rfl rfl (by decide) rfl ?_
      refine uu_iload dX3_isPattern_161 (List.mem_of_getElem? (i := 0) rfl) ?_
      refine uu_istore dX3_isPattern_163 (by decide) rfl ?_
      refine uu_iload dX3_isPattern_165 (List.mem_of_getElem? (i := 7) rfl) ?_
      refine uu_istore dX3_isPattern_167 (by decide) rfl ?_
      refine uu_goto (tgt := 232) dX3_isPattern_169 (by decide) ?_
      refine uu_iinc (v := x11 + 1) dX3_isPattern_232 (k := 10) rfl rfl (by decide) rfl ?_
      refine uu_goto (tgt := 57) dX3_isPattern_235 (by decide) ?_
      refine uu_lv [5, 6, 7, 8, 9, 3, 2, 1, 10, 0] (lv' := [(0, .ref (B + k0)), (1, .int x1), (4, .ref (B + k4)), (5, .int x5), (6, .int x6), (7, .int (x7 + 1)), (8, .int (x7 + 1)), (9, .int x6), (10, .int x10), (11, .int (x11 + 1))]) rfl ?_
      exact hK57 k0 x1 k4 x5 x6 (x7 + 1) (x7 + 1) x6 x10 (x11 + 1) hk0 _ _ h
def fb_X3_isPattern_115 (K57 : Nat → Int32 → Nat → Int32 → Int32 → Int32 → Int32 → Int32 → Int32 → Int32 → uS → Option Bool) (k0 : Nat) (x1 : Int32) (k4 : Nat) (x5 : Int32) (x6 : Int32) (x7 : Int32) (x8 : Int32) (x9 : Int32) (x10 : Int32) (x11 : Int32) (xs0 : Int32) (s : uS) : Option Bool := if x5 ≤ x7 then (fb_X3_isPattern_139 K57 k0 x1 k4 x5 x6 x7 x8 x9 x10 x11 xs0 false s) else ((iget 21 s k4 x7).bind fun v2 => if v2 = 63 then (fb_X3_isPattern_139 K57 k0 x1 k4 x5 x6 x7 x8 x9 x10 x11 xs0 true s) else (fb_X3_isPattern_139 K57 k0 x1 k4 x5 x6 x7 x8 x9 x10 x11 xs0 false s))
set_option maxRecDepth 100000 in
set_option maxHeartbeats 4000000 in
theorem xb_X3_isPattern_115 {l : Launch} {D : va_G} {A : Nat → ClassId} {B : Nat} {Z : State → Heap → Prop} {vF : Value} (uk : uK B Z vF) {K57 : Nat → Int32 → Nat → Int32 → Int32 → Int32 → Int32 → Int32 → Int32 → Int32 → uS → Option Bool} (hK57 : ∀ (k0 : Nat) (x1 : Int32) (k4 : Nat) (x5 : Int32) (x6 : Int32) (x7 : Int32) (x8 : Int32) (x9 : Int32) (x10 : Int32) (x11 : Int32) (hk0 : uSo k0 9) (s : uS) (r : Bool), K57 k0 x1 k4 x5 x6 x7 x8 x9 x10 x11 s = some r → GU l D A B Z mX3_isPattern 1 (s, some (.int (bI r))) s 57 [(0, .ref (B + k0)), (1, .int x1), (4, .ref (B + k4)), (5, .int x5), (6, .int x6), (7, .int x7), (8, .int x8), (9, .int x9), (10, .int x10), (11, .int x11)] []) {k0 : Nat} {x1 : Int32} {k4 : Nat} {x5 : Int32} {x6 : Int32} {x7 : Int32} {x8 : Int32} {x9 : Int32} {x10 : Int32} {x11 : Int32} {xs0 : Int32} {s : uS} {r : Bool} (hk0 : uSo k0 9) (h : fb_X3_isPattern_115 K57 k0 x1 k4 x5 x6 x7 x8 x9 x10 x11 xs0 s = some r) : GU l D A B Z mX3_isPattern 1 (s, some (.int (bI r))) s 115 [(0, .ref (B + k0)), (1, .int x1), (4, .ref (B + k4)), (5, .int x5), (6, .int x6), (7, .int x7), (8, .int x8), (9, .int x9), (10, .int x10), (11, .int x11)] [.int xs0] := by
  unfold fb_X3_isPattern_115 at h
  refine uu_istore dX3_isPattern_115 (by decide) rfl ?_
  refine uu_iload dX3_isPattern_117 (List.mem_of_getElem? (i := 6) rfl) ?_
  refine uu_iload dX3_isPattern_119 (List.mem_of_getElem? (i := 4) rfl) ?_
  refine uu_icmp_ge (tgt := 138) dX3_isPattern_121 (by decide) (fun c1 => ?_) (fun c1 => ?_)
  · replace h := uu_pos c1 h
    refine uu_iconst (v := 0) dX3_isPattern_138 (by decide) ?_
    refine uu_lv [1, 2, 3, 4, 5, 6, 7, 8, 9, 10, 0] (lv' := [(0, .ref (B + k0)), (1, .int x1), (4, .ref (B + k4)), (5, .int x5), (6, .int x6), (7, .int x7), (8, .int x8), (9, .int x9), (10, .int x10), (11, .int x11), (13, .int xs0)]) rfl ?_
    exact xb_X3_isPattern_139 uk hK57 hk0 h
  · replace h := uu_neg c1 h
    refine uu_aload dX3_isPattern_124 (List.mem_of_getElem? (i := 3) rfl) ?_
    refine uu_iload dX3_isPattern_126 (List.mem_of_getElem? (i := 6) rfl) ?_
    obtain ⟨v2, e3, h⟩ := uu_ob h
    refine uu_bald e3 dX3_isPattern_128 ?_
    refine uu_bipush (v := 63) dX3_isPattern_129 (by decide) ?_
    refine uu_icmp_ne (tgt := 138) dX3_isPattern_131 (by decide) (fun c4 => ?_) (fun c4 => ?_)
    · replace h := uu_neg c4 h
      refine uu_iconst (v := 0) dX3_isPattern_138 (by decide) ?_
      refine uu_lv [1, 2, 3, 4, 5, 6, 7, 8, 9, 10, 0] (lv' := [(0, .ref (B + k0)), (1, .int x1), (4, .ref (B + k4)), (5, .int x5), (6, .int x6), (7, .int x7), (8, .int x8), (9, .int x9), (10, .int x10), (11, .int x11), (13, .int xs0)]) rfl ?_
      exact xb_X3_isPattern_139 uk hK57 hk0 h
    · replace h := uu_pos c4 h
      refine uu_iconst (v := 1) dX3_isPattern_134 (by decide) ?_
      refine uu_goto (tgt := 139) dX3_isPattern_135 (by decide) ?_
      refine uu_lv [1, 2, 3, 4, 5, 6, 7, 8, 9, 10, 0] (lv' := [(0, .ref (B + k0)), (1, .int x1), (4, .ref (B + k4)), (5, .int x5), (6, .int x6), (7, .int x7), (8, .int x8), (9, .int x9), (10, .int x10), (11, .int x11), (13, .int xs0)]) rfl ?_
      exact xb_X3_isPattern_139 uk hK57 hk0 h
def fb_X3_isPattern_99 (K57 : Nat → Int32 → Nat → Int32 → Int32 → Int32 → Int32 → Int32 → Int32 → Int32 → uS → Option Bool) (k0 : Nat) (x1 : Int32) (k4 : Nat) (x5 : Int32) (x6 : Int32) (x7 : Int32) (x8 : Int32) (x9 : Int32) (x10 : Int32) (x11 : Int32) (bs0 : Bool) (s : uS) : Option Bool := if bs0 = true then (fb_X3_isPattern_115 K57 k0 x1 k4 x5 x6 x7 x8 x9 x10 x11 (x7 + 1) s) else (fb_X3_isPattern_115 K57 k0 x1 k4 x5 x6 x7 x8 x9 x10 x11 x7 s)
set_option maxRecDepth 100000 in
set_option maxHeartbeats 4000000 in
theorem xb_X3_isPattern_99 {l : Launch} {D : va_G} {A : Nat → ClassId} {B : Nat} {Z : State → Heap → Prop} {vF : Value} (uk : uK B Z vF) {K57 : Nat → Int32 → Nat → Int32 → Int32 → Int32 → Int32 → Int32 → Int32 → Int32 → uS → Option Bool} (hK57 : ∀ (k0 : Nat) (x1 : Int32) (k4 : Nat) (x5 : Int32) (x6 : Int32) (x7 : Int32) (x8 : Int32) (x9 : Int32) (x10 : Int32) (x11 : Int32) (hk0 : uSo k0 9) (s : uS) (r : Bool), K57 k0 x1 k4 x5 x6 x7 x8 x9 x10 x11 s = some r → GU l D A B Z mX3_isPattern 1 (s, some (.int (bI r))) s 57 [(0, .ref (B + k0)), (1, .int x1), (4, .ref (B + k4)), (5, .int x5), (6, .int x6), (7, .int x7), (8, .int x8), (9, .int x9), (10, .int x10), (11, .int x11)] []) {k0 : Nat} {x1 : Int32} {k4 : Nat} {x5 : Int32} {x6 : Int32} {x7 : Int32} {x8 : Int32} {x9 : Int32} {x10 : Int32} {x11 : Int32} {bs0 : Bool} {s : uS} {r : Bool} (hk0 : uSo k0 9) (h : fb_X3_isPattern_99 K57 k0 x1 k4 x5 x6 x7 x8 x9 x10 x11 bs0 s = some r) : GU l D A B Z mX3_isPattern 1 (s, some (.int (bI r))) s 99 [(0, .ref (B + k0)), (1, .int x1), (4, .ref (B + k4)), (5, .int x5), (6, .int x6), (7, .int x7), (8, .int x8), (9, .int x9), (10, .int x10), (11, .int x11)] [.int (bI bs0)] := by
  unfold fb_X3_isPattern_99 at h
  refine uu_istore dX3_isPattern_99 (by decide) rfl ?_
  refine uu_iload dX3_isPattern_101 (List.mem_of_getElem? (i := 0) rfl) ?_
  refine uu_ifb_eq (tgt := 113) dX3_isPattern_103 (by decide) (fun c1 => ?_) (fun c1 => ?_)
  · replace h := uu_neg c1 h
    refine uu_iload dX3_isPattern_113 (List.mem_of_getElem? (i := 6) rfl) ?_
    refine uu_lv [1, 2, 3, 4, 5, 6, 7, 8, 9, 10] (lv' := [(0, .ref (B + k0)), (1, .int x1), (4, .ref (B + k4)), (5, .int x5), (6, .int x6), (7, .int x7), (8, .int x8), (9, .int x9), (10, .int x10), (11, .int x11)]) rfl ?_
    exact xb_X3_isPattern_115 uk hK57 hk0 h
  · replace h := uu_pos c1 h
    refine uu_iload dX3_isPattern_106 (List.mem_of_getElem? (i := 6) rfl) ?_
    refine uu_iconst (v := 1) dX3_isPattern_108 (by decide) ?_
    refine uu_iadd dX3_isPattern_109 ?_
    refine uu_goto (tgt := 115) dX3_isPattern_110 (by decide) ?_
    refine uu_lv [1, 2, 3, 4, 5, 6, 7, 8, 9, 10] (lv' := [(0, .ref (B + k0)), (1, .int x1), (4, .ref (B + k4)), (5, .int x5), (6, .int x6), (7, .int x7), (8, .int x8), (9, .int x9), (10, .int x10), (11, .int x11)]) rfl ?_
    exact xb_X3_isPattern_115 uk hK57 hk0 h
def fb_X3_isPattern_57 (K57 : Nat → Int32 → Nat → Int32 → Int32 → Int32 → Int32 → Int32 → Int32 → Int32 → uS → Option Bool) (k0 : Nat) (x1 : Int32) (k4 : Nat) (x5 : Int32) (x6 : Int32) (x7 : Int32) (x8 : Int32) (x9 : Int32) (x10 : Int32) (x11 : Int32) (s : uS) : Option Bool := if x10 ≤ x11 then (fn_X3_isPattern_238 uFu k0 x1 k4 x5 x6 x7 s) else ((iget 20 s (k0 + 3) x1).bind fun v2 => if v2 ≤ x6 then (fn_X3_isPattern_238 uFu k0 x1 k4 x5 x6 x7 s) else (if x5 ≤ (x7 + 1) then (fb_X3_isPattern_99 K57 k0 x1 k4 x5 x6 x7 x8 x9 x10 x11 false s) else ((iget 21 s k4 x7).bind fun v6 => if v6 = 92 then (fb_X3_isPattern_99 K57 k0 x1 k4 x5 x6 x7 x8 x9 x10 x11 true s) else (fb_X3_isPattern_99 K57 k0 x1 k4 x5 x6 x7 x8 x9 x10 x11 false s))))
set_option maxRecDepth 100000 in
set_option maxHeartbeats 4000000 in
theorem xb_X3_isPattern_57 {l : Launch} {D : va_G} {A : Nat → ClassId} {B : Nat} {Z : State → Heap → Prop} {vF : Value} (uk : uK B Z vF) {K57 : Nat → Int32 → Nat → Int32 → Int32 → Int32 → Int32 → Int32 → Int32 → Int32 → uS → Option Bool} (hK57 : ∀ (k0 : Nat) (x1 : Int32) (k4 : Nat) (x5 : Int32) (x6 : Int32) (x7 : Int32) (x8 : Int32) (x9 : Int32) (x10 : Int32) (x11 : Int32) (hk0 : uSo k0 9) (s : uS) (r : Bool), K57 k0 x1 k4 x5 x6 x7 x8 x9 x10 x11 s = some r → GU l D A B Z mX3_isPattern 1 (s, some (.int (bI r))) s 57 [(0, .ref (B + k0)), (1, .int x1), (4, .ref (B + k4)), (5, .int x5), (6, .int x6), (7, .int x7), (8, .int x8), (9, .int x9), (10, .int x10), (11, .int x11)] []) {k0 : Nat} {x1 : Int32} {k4 : Nat} {x5 : Int32} {x6 : Int32} {x7 : Int32} {x8 : Int32} {x9 : Int32} {x10 : Int32} {x11 : Int32} {s : uS} {r : Bool} (hk0 : uSo k0 9) (h : fb_X3_isPattern_57 K57 k0 x1 k4 x5 x6 x7 x8 x9 x10 x11 s = some r) : GU l D A B Z mX3_isPattern 1 (s, some (.int (bI r))) s 57 [(0, .ref (B + k0)), (1, .int x1), (4, .ref (B + k4)), (5, .int x5), (6, .int x6), (7, .int x7), (8, .int x8), (9, .int x9), (10, .int x10), (11, .int x11)] [] := by
  unfold fb_X3_isPattern_57 at h
  refine uu_iload dX3_isPattern_57 (List.mem_of_getElem? (i := 9) rfl) ?_
  refine uu_iload dX3_isPattern_59 (List.mem_of_getElem? (i := 8) rfl) ?_
  refine uu_icmp_ge (tgt := 238) dX3_isPattern_61 (by decide) (fun c1 => ?_) (fun c1 => ?_)
  · replace h := uu_pos c1 h
    refine uu_lv [0, 1, 2, 3, 4, 5] (lv' := [(0, .ref (B + k0)), (1, .int x1), (4, .ref (B + k4)), (5, .int x5), (6, .int x6), (7, .int x7)]) rfl ?_
    exact xn_X3_isPattern_238 uk  _ _ _ _ _ _ _ hk0 _ _ h
  · replace h := uu_neg c1 h
    refine uu_iload dX3_isPattern_64 (List.mem_of_getElem? (i := 4) rfl) ?_
    refine uu_aload_n dX3_isPattern_66 rfl (List.mem_of_getElem? (i := 0) rfl) ?_
    refine uu_getc (ci := 9) (N := 6) fX3_94 (by decide) hk0.is (by decide) (c := 3) (by decide) (k2 := k0 + 3) rfl dX3_isPattern_67 ?_
    refine uu_iload_n dX3_isPattern_70 rfl (List.mem_of_getElem? (i := 1) rfl) ?_
    obtain ⟨v2, e3, h⟩ := uu_ob h
    refine uu_iald e3 dX3_isPattern_71 ?_
    refine uu_icmp_ge (tgt := 238) dX3_isPattern_72 (by decide) (fun c4 => ?_) (fun c4 => ?_)
    · replace h := uu_pos c4 h
      refine uu_lv [0, 1, 2, 3, 4, 5] (lv' := [(0, .ref (B + k0)), (1, .int x1), (4, .ref (B + k4)), (5, .int x5), (6, .int x6), (7, .int x7)]) rfl ?_
      exact xn_X3_isPattern_238 uk  _ _ _ _ _ _ _ hk0 _ _ h
    · replace h := uu_neg c4 h
      refine uu_iload dX3_isPattern_75 (List.mem_of_getElem? (i := 5) rfl) ?_
      refine uu_iconst (v := 1) dX3_isPattern_77 (by decide) ?_
      refine uu_iadd dX3_isPattern_78 ?_
      refine uu_iload dX3_isPattern_79 (List.mem_of_getElem? (i := 3) rfl) ?_
      refine uu_icmp_ge (tgt := 98) dX3_isPattern_81 (by decide) (fun c5 => ?_) (fun c5 => ?_)
      · replace h := uu_pos c5 h
        refine uu_iconst (v := 0) dX3_isPattern_98 (by decide) ?_
        exact xb_X3_isPattern_99 uk hK57 hk0 h
      · replace h := uu_neg c5 h
        refine uu_aload dX3_isPattern_84 (List.mem_of_getElem? (i := 2) rfl) ?_
        refine uu_iload dX3_isPattern_86 (List.mem_of_getElem? (i := 5) rfl) ?_
        obtain ⟨v6, e7, h⟩ := uu_ob h
        refine uu_bald e7 dX3_isPattern_88 ?_
        refine uu_bipush (v := 92) dX3_isPattern_89 (by decide) ?_
        refine uu_icmp_ne (tgt := 98) dX3_isPattern_91 (by decide) (fun c8 => ?_) (fun c8 => ?_)
        · replace h := uu_neg c8 h
          refine uu_iconst (v := 0) dX3_isPattern_98 (by decide) ?_
          exact xb_X3_isPattern_99 uk hK57 hk0 h
        · replace h := uu_pos c8 h
          refine uu_iconst (v := 1) dX3_isPattern_94 (by decide) ?_
          refine uu_goto (tgt := 99) dX3_isPattern_95 (by decide) ?_
          exact xb_X3_isPattern_99 uk hK57 hk0 h
def fn_X3_isPattern_57  : Nat → Nat → Int32 → Nat → Int32 → Int32 → Int32 → Int32 → Int32 → Int32 → Int32 → uS → Option Bool
  | 0 => fun _ _ _ _ _ _ _ _ _ _ _ => none
  | n + 1 => fb_X3_isPattern_57 (fn_X3_isPattern_57  n)
set_option maxRecDepth 100000 in
set_option maxHeartbeats 4000000 in
theorem xn_X3_isPattern_57 {l : Launch} {D : va_G} {A : Nat → ClassId} {B : Nat} {Z : State → Heap → Prop} {vF : Value} (uk : uK B Z vF)   : ∀ (n : Nat) (k0 : Nat) (x1 : Int32) (k4 : Nat) (x5 : Int32) (x6 : Int32) (x7 : Int32) (x8 : Int32) (x9 : Int32) (x10 : Int32) (x11 : Int32) (hk0 : uSo k0 9) (s : uS) (r : Bool), fn_X3_isPattern_57  n k0 x1 k4 x5 x6 x7 x8 x9 x10 x11 s = some r → GU l D A B Z mX3_isPattern 1 (s, some (.int (bI r))) s 57 [(0, .ref (B + k0)), (1, .int x1), (4, .ref (B + k4)), (5, .int x5), (6, .int x6), (7, .int x7), (8, .int x8), (9, .int x9), (10, .int x10), (11, .int x11)] [] := by
  intro n
  induction n with
  | zero => intro k0 x1 k4 x5 x6 x7 x8 x9 x10 x11 hk0 s r h
            cases h
  | succ n ih => intro k0 x1 k4 x5 x6 x7 x8 x9 x10 x11 hk0 s r h
                 exact xb_X3_isPattern_57 uk ih hk0 h
def fn_X3_isPattern (k0 : Nat) (x1 : Int32) (k2 : Nat) (x3 : Int32) (s : uS) : Option Bool := (iget 20 s (k2 + 3) x3).bind fun v1 => (iget 20 s (k0 + 2) x1).bind fun v3 => (iget 20 s (k2 + 2) x3).bind fun v5 => (fn_X9_lengthOf k0 x1 s).bind fun v7 => (fn_X9_lengthOf k2 x3 s).bind fun v9 => fn_X3_isPattern_57 (5 * uFu) k0 x1 (k2 + 1) v1 v3 v5 (-1) v3 ((v7 + 2) * (v9 + 2)) 0 s
set_option maxRecDepth 100000 in
set_option maxHeartbeats 4000000 in
theorem xc_X3_isPattern {l : Launch} {D : va_G} {A : Nat → ClassId} {B : Nat} {Z : State → Heap → Prop} {vF : Value} (uk : uK B Z vF) {k0 : Nat} {x1 : Int32} {k2 : Nat} {x3 : Int32} {s : uS} {r : Bool} (hk0 : uSo k0 9) (hk2 : uSo k2 9) (h : fn_X3_isPattern k0 x1 k2 x3 s = some r) : CU l D A B Z 1 mX3_isPattern s [.ref (B + k0), .int x1, .ref (B + k2), .int x3] (s, some (.int (bI r))) := by
  unfold fn_X3_isPattern at h
  refine cu_of rfl uk.1.1 (Nat.le_of_ble_eq_true rfl) ?_
  show GU _ _ _ _ _ _ _ _ _ 0 [(0, .ref (B + k0)), (1, .int x1), (2, .ref (B + k2)), (3, .int x3)] []
  refine uu_aload_n dX3_isPattern_0 rfl (List.mem_of_getElem? (i := 2) rfl) ?_
  refine uu_getc (ci := 9) (N := 6) fX3_83 (by decide) hk2.is (by decide) (c := 1) (by decide) (k2 := k2 + 1) rfl dX3_isPattern_1 ?_
  refine uu_astore dX3_isPattern_4 (by decide) rfl ?_
  refine uu_aload_n dX3_isPattern_6 rfl (List.mem_of_getElem? (i := 3) rfl) ?_
  refine uu_getc (ci := 9) (N := 6) fX3_94 (by decide) hk2.is (by decide) (c := 3) (by decide) (k2 := k2 + 3) rfl dX3_isPattern_7 ?_
  refine uu_iload_n dX3_isPattern_10 rfl (List.mem_of_getElem? (i := 4) rfl) ?_
  obtain ⟨v1, e2, h⟩ := uu_ob h
  refine uu_iald e2 dX3_isPattern_11 ?_
  refine uu_istore dX3_isPattern_12 (by decide) rfl ?_
  refine uu_aload_n dX3_isPattern_14 rfl (List.mem_of_getElem? (i := 2) rfl) ?_
  refine uu_getc (ci := 9) (N := 6) fX3_87 (by decide) hk0.is (by decide) (c := 2) (by decide) (k2 := k0 + 2) rfl dX3_isPattern_15 ?_
  refine uu_iload_n dX3_isPattern_18 rfl (List.mem_of_getElem? (i := 3) rfl) ?_
  obtain ⟨v3, e4, h⟩ := uu_ob h
  refine uu_iald e4 dX3_isPattern_19 ?_
  refine uu_istore dX3_isPattern_20 (by decide) rfl ?_
  refine uu_aload_n dX3_isPattern_22 rfl (List.mem_of_getElem? (i := 5) rfl) ?_
  refine uu_getc (ci := 9) (N := 6) fX3_87 (by decide) hk2.is (by decide) (c := 2) (by decide) (k2 := k2 + 2) rfl dX3_isPattern_23 ?_
  refine uu_iload_n dX3_isPattern_26 rfl (List.mem_of_getElem? (i := 6) rfl) ?_
  obtain ⟨v5, e6, h⟩ := uu_ob h
  refine uu_iald e6 dX3_isPattern_27 ?_
  refine uu_istore dX3_isPattern_28 (by decide) rfl ?_
  refine uu_iconst (v := -1) dX3_isPattern_30 (by decide) ?_
  refine uu_istore dX3_isPattern_31 (by decide) rfl ?_
  refine uu_iload dX3_isPattern_33 (List.mem_of_getElem? (i := 2) rfl) ?_
  refine uu_istore dX3_isPattern_35 (by decide) rfl ?_
  refine uu_aload_n dX3_isPattern_37 rfl (List.mem_of_getElem? (i := 6) rfl) ?_
  refine uu_iload_n dX3_isPattern_38 rfl (List.mem_of_getElem? (i := 7) rfl) ?_
  obtain ⟨v7, e8, h⟩ := uu_ob h
  refine uu_cv (d1 := 0) (k := k0) (ci := 9) (T := TX9) (N := 6) (As := [.int x1]) (st := []) (st' := [.int v7]) (xc_X9_lengthOf uk hk0 e8) hk0.is (by decide) rfl kX9_lengthOf lX3_71 sX9_lengthOf (by decide) (Nat.le_of_ble_eq_true rfl) dX3_isPattern_39 rfl ?_
  refine uu_iconst (v := 2) dX3_isPattern_42 (by decide) ?_
  refine uu_iadd dX3_isPattern_43 ?_
  refine uu_aload_n dX3_isPattern_44 rfl (List.mem_of_getElem? (i := 8) rfl) ?_
  refine uu_iload_n dX3_isPattern_45 rfl (List.mem_of_getElem? (i := 9) rfl) ?_
  obtain ⟨v9, e10, h⟩ := uu_ob h
  refine uu_cv (d1 := 0) (k := k2) (ci := 9) (T := TX9) (N := 6) (As := [.int x3]) (st := [.int (v7 + 2)]) (st' := [.int v9, .int (v7 + 2)]) (xc_X9_lengthOf uk hk2 e10) hk2.is (by decide) rfl kX9_lengthOf lX3_71 sX9_lengthOf (by decide) (Nat.le_of_ble_eq_true rfl) dX3_isPattern_46 rfl ?_
  refine uu_iconst (v := 2) dX3_isPattern_49 (by decide) ?_
  refine uu_iadd dX3_isPattern_50 ?_
  refine uu_imul dX3_isPattern_51 ?_
  refine uu_istore dX3_isPattern_52 (by decide) rfl ?_
  refine uu_iconst (v := 0) dX3_isPattern_54 (by decide) ?_
  refine uu_istore dX3_isPattern_55 (by decide) rfl ?_
  refine uu_lv [8, 9, 7, 6, 5, 4, 3, 2, 1, 0] (lv' := [(0, .ref (B + k0)), (1, .int x1), (4, .ref (B + (k2 + 1))), (5, .int v1), (6, .int v3), (7, .int v5), (8, .int (-1)), (9, .int v3), (10, .int ((v7 + 2) * (v9 + 2))), (11, .int 0)]) rfl ?_
  exact xn_X3_isPattern_57 uk  _ _ _ _ _ _ _ _ _ _ _ hk0 _ _ h
abbrev mX3_digitsEnd : hM := (yX3_digitsEnd, cX3_digitsEnd, 3, (some (.int)))
theorem dX3_digitsEnd_7 : decode cX3_digitsEnd 7 = .ok (.iload_n 2, 1) := by decide +kernel
theorem dX3_digitsEnd_8 : decode cX3_digitsEnd 8 = .ok (.aload_n 0, 1) := by decide +kernel
theorem dX3_digitsEnd_9 : decode cX3_digitsEnd 9 = .ok (.getfield 94, 3) := by decide +kernel
theorem dX3_digitsEnd_12 : decode cX3_digitsEnd 12 = .ok (.iload_n 1, 1) := by decide +kernel
theorem dX3_digitsEnd_13 : decode cX3_digitsEnd 13 = .ok (.iaload, 1) := by decide +kernel
theorem dX3_digitsEnd_14 : decode cX3_digitsEnd 14 = .ok (.if_icmp .ge 31, 3) := by decide +kernel
theorem dX3_digitsEnd_45 : decode cX3_digitsEnd 45 = .ok (.iload_n 2, 1) := by decide +kernel
theorem dX3_digitsEnd_46 : decode cX3_digitsEnd 46 = .ok (.ireturn, 1) := by decide +kernel
theorem dX3_digitsEnd_17 : decode cX3_digitsEnd 17 = .ok (.aload_n 0, 1) := by decide +kernel
theorem dX3_digitsEnd_18 : decode cX3_digitsEnd 18 = .ok (.getfield 83, 3) := by decide +kernel
theorem dX3_digitsEnd_21 : decode cX3_digitsEnd 21 = .ok (.iload_n 2, 1) := by decide +kernel
theorem dX3_digitsEnd_22 : decode cX3_digitsEnd 22 = .ok (.baload, 1) := by decide +kernel
theorem dX3_digitsEnd_23 : decode cX3_digitsEnd 23 = .ok (.bipush 48, 2) := by decide +kernel
theorem dX3_digitsEnd_25 : decode cX3_digitsEnd 25 = .ok (.if_icmp .lt 20, 3) := by decide +kernel
theorem dX3_digitsEnd_28 : decode cX3_digitsEnd 28 = .ok (.aload_n 0, 1) := by decide +kernel
theorem dX3_digitsEnd_29 : decode cX3_digitsEnd 29 = .ok (.getfield 83, 3) := by decide +kernel
theorem dX3_digitsEnd_32 : decode cX3_digitsEnd 32 = .ok (.iload_n 2, 1) := by decide +kernel
theorem dX3_digitsEnd_33 : decode cX3_digitsEnd 33 = .ok (.baload, 1) := by decide +kernel
theorem dX3_digitsEnd_34 : decode cX3_digitsEnd 34 = .ok (.bipush 57, 2) := by decide +kernel
theorem dX3_digitsEnd_36 : decode cX3_digitsEnd 36 = .ok (.if_icmp .gt 9, 3) := by decide +kernel
theorem dX3_digitsEnd_39 : decode cX3_digitsEnd 39 = .ok (.iinc 2 1, 3) := by decide +kernel
theorem dX3_digitsEnd_42 : decode cX3_digitsEnd 42 = .ok (.goto (-35), 3) := by decide +kernel
theorem dX3_digitsEnd_0 : decode cX3_digitsEnd 0 = .ok (.aload_n 0, 1) := by decide +kernel
theorem dX3_digitsEnd_1 : decode cX3_digitsEnd 1 = .ok (.getfield 87, 3) := by decide +kernel
theorem dX3_digitsEnd_4 : decode cX3_digitsEnd 4 = .ok (.iload_n 1, 1) := by decide +kernel
theorem dX3_digitsEnd_5 : decode cX3_digitsEnd 5 = .ok (.iaload, 1) := by decide +kernel
theorem dX3_digitsEnd_6 : decode cX3_digitsEnd 6 = .ok (.istore_n 2, 1) := by decide +kernel
def fb_X3_digitsEnd_7 (K7 : Nat → Int32 → Int32 → uS → Option Int32) (k0 : Nat) (x1 : Int32) (x2 : Int32) (s : uS) : Option Int32 := (iget 20 s (k0 + 3) x1).bind fun v1 => if v1 ≤ x2 then (some x2) else ((iget 21 s (k0 + 1) x2).bind fun v4 => if v4 < 48 then (some x2) else ((iget 21 s (k0 + 1) x2).bind fun v7 => if (57 : Int32) < v7 then (some x2) else (K7 k0 x1 (x2 + 1) s)))
set_option maxRecDepth 100000 in
set_option maxHeartbeats 4000000 in
theorem xb_X3_digitsEnd_7 {l : Launch} {D : va_G} {A : Nat → ClassId} {B : Nat} {Z : State → Heap → Prop} {vF : Value} (uk : uK B Z vF) {K7 : Nat → Int32 → Int32 → uS → Option Int32} (hK7 : ∀ (k0 : Nat) (x1 : Int32) (x2 : Int32) (hk0 : uSo k0 9) (s : uS) (r : Int32), K7 k0 x1 x2 s = some r → GU l D A B Z mX3_digitsEnd 0 (s, some (.int r)) s 7 [(0, .ref (B + k0)), (1, .int x1), (2, .int x2)] []) {k0 : Nat} {x1 : Int32} {x2 : Int32} {s : uS} {r : Int32} (hk0 : uSo k0 9) (h : fb_X3_digitsEnd_7 K7 k0 x1 x2 s = some r) : GU l D A B Z mX3_digitsEnd 0 (s, some (.int r)) s 7 [(0, .ref (B + k0)), (1, .int x1), (2, .int x2)] [] := by
  unfold fb_X3_digitsEnd_7 at h
  refine uu_iload_n dX3_digitsEnd_7 rfl (List.mem_of_getElem? (i := 2) rfl) ?_
  refine uu_aload_n dX3_digitsEnd_8 rfl (List.mem_of_getElem? (i := 0) rfl) ?_
  refine uu_getc (ci := 9) (N := 6) fX3_94 (by decide) hk0.is (by decide) (c := 3) (by decide) (k2 := k0 + 3) rfl dX3_digitsEnd_9 ?_
  refine uu_iload_n dX3_digitsEnd_12 rfl (List.mem_of_getElem? (i := 1) rfl) ?_
  obtain ⟨v1, e2, h⟩ := uu_ob h
  refine uu_iald e2 dX3_digitsEnd_13 ?_
  refine uu_icmp_ge (tgt := 45) dX3_digitsEnd_14 (by decide) (fun c3 => ?_) (fun c3 => ?_)
  · replace h := uu_pos c3 h
    refine uu_iload_n dX3_digitsEnd_45 rfl (List.mem_of_getElem? (i := 2) rfl) ?_
    have hr := Option.some.inj h
    subst hr
    exact uu_iret rfl dX3_digitsEnd_46
  · replace h := uu_neg c3 h
    refine uu_aload_n dX3_digitsEnd_17 rfl (List.mem_of_getElem? (i := 0) rfl) ?_
    refine uu_getc (ci := 9) (N := 6) fX3_83 (by decide) hk0.is (by decide) (c := 1) (by decide) (k2 := k0 + 1) rfl dX3_digitsEnd_18 ?_
    refine uu_iload_n dX3_digitsEnd_21 rfl (List.mem_of_getElem? (i := 2) rfl) ?_
    obtain ⟨v4, e5, h⟩ := uu_ob h
    refine uu_bald e5 dX3_digitsEnd_22 ?_
    refine uu_bipush (v := 48) dX3_digitsEnd_23 (by decide) ?_
    refine uu_icmp_lt (tgt := 45) dX3_digitsEnd_25 (by decide) (fun c6 => ?_) (fun c6 => ?_)
    · replace h := uu_pos c6 h
      refine uu_iload_n dX3_digitsEnd_45 rfl (List.mem_of_getElem? (i := 2) rfl) ?_
      have hr := Option.some.inj h
      subst hr
      exact uu_iret rfl dX3_digitsEnd_46
    · replace h := uu_neg c6 h
      refine uu_aload_n dX3_digitsEnd_28 rfl (List.mem_of_getElem? (i := 0) rfl) ?_
      refine uu_getc (ci := 9) (N := 6) fX3_83 (by decide) hk0.is (by decide) (c := 1) (by decide) (k2 := k0 + 1) rfl dX3_digitsEnd_29 ?_
      refine uu_iload_n dX3_digitsEnd_32 rfl (List.mem_of_getElem? (i := 2) rfl) ?_
      obtain ⟨v7, e8, h⟩ := uu_ob h
      refine uu_bald e8 dX3_digitsEnd_33 ?_
      refine uu_bipush (v := 57) dX3_digitsEnd_34 (by decide) ?_
      refine uu_icmp_gt (tgt := 45) dX3_digitsEnd_36 (by decide) (fun c9 => ?_) (fun c9 => ?_)
      · replace h := uu_pos c9 h
        refine uu_iload_n dX3_digitsEnd_45 rfl (List.mem_of_getElem? (i := 2) rfl) ?_
        have hr := Option.some.inj h
        subst hr
        exact uu_iret rfl dX3_digitsEnd_46
      · replace h := uu_neg c9 h
        refine uu_iinc (v := x2 + 1) dX3_digitsEnd_39 (k := 2) rfl rfl (by decide) rfl ?_
        refine uu_goto (tgt := 7) dX3_digitsEnd_42 (by decide) ?_
        refine uu_lv [1, 2, 0] (lv' := [(0, .ref (B + k0)), (1, .int x1), (2, .int (x2 + 1))]) rfl ?_
        exact hK7 k0 x1 (x2 + 1) hk0 _ _ h
def fn_X3_digitsEnd_7  : Nat → Nat → Int32 → Int32 → uS → Option Int32
  | 0 => fun _ _ _ _ => none
  | n + 1 => fb_X3_digitsEnd_7 (fn_X3_digitsEnd_7  n)
set_option maxRecDepth 100000 in
set_option maxHeartbeats 4000000 in
theorem xn_X3_digitsEnd_7 {l : Launch} {D : va_G} {A : Nat → ClassId} {B : Nat} {Z : State → Heap → Prop} {vF : Value} (uk : uK B Z vF)   : ∀ (n : Nat) (k0 : Nat) (x1 : Int32) (x2 : Int32) (hk0 : uSo k0 9) (s : uS) (r : Int32), fn_X3_digitsEnd_7  n k0 x1 x2 s = some r → GU l D A B Z mX3_digitsEnd 0 (s, some (.int r)) s 7 [(0, .ref (B + k0)), (1, .int x1), (2, .int x2)] [] := by
  intro n
  induction n with
  | zero => intro k0 x1 x2 hk0 s r h
            cases h
  | succ n ih => intro k0 x1 x2 hk0 s r h
                 exact xb_X3_digitsEnd_7 uk ih hk0 h
def fn_X3_digitsEnd (k0 : Nat) (x1 : Int32) (s : uS) : Option Int32 := (iget 20 s (k0 + 2) x1).bind fun v1 => fn_X3_digitsEnd_7 uFu k0 x1 v1 s
set_option maxRecDepth 100000 in
set_option maxHeartbeats 4000000 in
theorem xc_X3_digitsEnd {l : Launch} {D : va_G} {A : Nat → ClassId} {B : Nat} {Z : State → Heap → Prop} {vF : Value} (uk : uK B Z vF) {k0 : Nat} {x1 : Int32} {s : uS} {r : Int32} (hk0 : uSo k0 9) (h : fn_X3_digitsEnd k0 x1 s = some r) : CU l D A B Z 0 mX3_digitsEnd s [.ref (B + k0), .int x1] (s, some (.int r)) := by
  unfold fn_X3_digitsEnd at h
  refine cu_of rfl uk.1.1 (Nat.le_of_ble_eq_true rfl) ?_
  show GU _ _ _ _ _ _ _ _ _ 0 [(0, .ref (B + k0)), (1, .int x1)] []
  refine uu_aload_n dX3_digitsEnd_0 rfl (List.mem_of_getElem? (i := 0) rfl) ?_
  refine uu_getc (ci := 9) (N := 6) fX3_87 (by decide) hk0.is (by decide) (c := 2) (by decide) (k2 := k0 + 2) rfl dX3_digitsEnd_1 ?_
  refine uu_iload_n dX3_digitsEnd_4 rfl (List.mem_of_getElem? (i := 1) rfl) ?_
  obtain ⟨v1, e2, h⟩ := uu_ob h
  refine uu_iald e2 dX3_digitsEnd_5 ?_
  refine uu_istore_n dX3_digitsEnd_6 rfl (by decide) rfl ?_
  refine uu_lv [1, 2, 0] (lv' := [(0, .ref (B + k0)), (1, .int x1), (2, .int v1)]) rfl ?_
  exact xn_X3_digitsEnd_7 uk  _ _ _ _ hk0 _ _ h
abbrev mX3_orderOfNumbers : hM := (yX3_orderOfNumbers, cX3_orderOfNumbers, 9, (some (.int)))
theorem dX3_orderOfNumbers_56 : decode cX3_orderOfNumbers 56 = .ok (.iload 5, 2) := by decide +kernel
theorem dX3_orderOfNumbers_58 : decode cX3_orderOfNumbers 58 = .ok (.iload 7, 2) := by decide +kernel
theorem dX3_orderOfNumbers_60 : decode cX3_orderOfNumbers 60 = .ok (.if_icmp .ne 7, 3) := by decide +kernel
theorem dX3_orderOfNumbers_67 : decode cX3_orderOfNumbers 67 = .ok (.iconst 0, 1) := by decide +kernel
theorem dX3_orderOfNumbers_68 : decode cX3_orderOfNumbers 68 = .ok (.isub, 1) := by decide +kernel
theorem dX3_orderOfNumbers_69 : decode cX3_orderOfNumbers 69 = .ok (.ireturn, 1) := by decide +kernel
theorem dX3_orderOfNumbers_63 : decode cX3_orderOfNumbers 63 = .ok (.iconst 1, 1) := by decide +kernel
theorem dX3_orderOfNumbers_64 : decode cX3_orderOfNumbers 64 = .ok (.goto 4, 3) := by decide +kernel
theorem dX3_orderOfNumbers_44 : decode cX3_orderOfNumbers 44 = .ok (.iload 4, 2) := by decide +kernel
theorem dX3_orderOfNumbers_46 : decode cX3_orderOfNumbers 46 = .ok (.iload 6, 2) := by decide +kernel
theorem dX3_orderOfNumbers_48 : decode cX3_orderOfNumbers 48 = .ok (.if_icmp .ne 7, 3) := by decide +kernel
theorem dX3_orderOfNumbers_55 : decode cX3_orderOfNumbers 55 = .ok (.iconst 0, 1) := by decide +kernel
theorem dX3_orderOfNumbers_51 : decode cX3_orderOfNumbers 51 = .ok (.iconst 1, 1) := by decide +kernel
theorem dX3_orderOfNumbers_52 : decode cX3_orderOfNumbers 52 = .ok (.goto 4, 3) := by decide +kernel
theorem dX3_orderOfNumbers_178 : decode cX3_orderOfNumbers 178 = .ok (.iload 8, 2) := by decide +kernel
theorem dX3_orderOfNumbers_180 : decode cX3_orderOfNumbers 180 = .ok (.ifCond .ne 17, 3) := by decide +kernel
theorem dX3_orderOfNumbers_197 : decode cX3_orderOfNumbers 197 = .ok (.iload 8, 2) := by decide +kernel
theorem dX3_orderOfNumbers_199 : decode cX3_orderOfNumbers 199 = .ok (.goto 18, 3) := by decide +kernel
theorem dX3_orderOfNumbers_217 : decode cX3_orderOfNumbers 217 = .ok (.ireturn, 1) := by decide +kernel
theorem dX3_orderOfNumbers_183 : decode cX3_orderOfNumbers 183 = .ok (.iload 4, 2) := by decide +kernel
theorem dX3_orderOfNumbers_185 : decode cX3_orderOfNumbers 185 = .ok (.iload 6, 2) := by decide +kernel
theorem dX3_orderOfNumbers_187 : decode cX3_orderOfNumbers 187 = .ok (.if_icmp .ge 10, 3) := by decide +kernel
theorem dX3_orderOfNumbers_190 : decode cX3_orderOfNumbers 190 = .ok (.iload 5, 2) := by decide +kernel
theorem dX3_orderOfNumbers_192 : decode cX3_orderOfNumbers 192 = .ok (.iload 7, 2) := by decide +kernel
theorem dX3_orderOfNumbers_194 : decode cX3_orderOfNumbers 194 = .ok (.if_icmp .lt 8, 3) := by decide +kernel
theorem dX3_orderOfNumbers_202 : decode cX3_orderOfNumbers 202 = .ok (.aload_n 0, 1) := by decide +kernel
theorem dX3_orderOfNumbers_203 : decode cX3_orderOfNumbers 203 = .ok (.getfield 83, 3) := by decide +kernel
theorem dX3_orderOfNumbers_206 : decode cX3_orderOfNumbers 206 = .ok (.iload 4, 2) := by decide +kernel
theorem dX3_orderOfNumbers_208 : decode cX3_orderOfNumbers 208 = .ok (.baload, 1) := by decide +kernel
theorem dX3_orderOfNumbers_209 : decode cX3_orderOfNumbers 209 = .ok (.aload_n 2, 1) := by decide +kernel
theorem dX3_orderOfNumbers_210 : decode cX3_orderOfNumbers 210 = .ok (.getfield 83, 3) := by decide +kernel
theorem dX3_orderOfNumbers_213 : decode cX3_orderOfNumbers 213 = .ok (.iload 5, 2) := by decide +kernel
theorem dX3_orderOfNumbers_215 : decode cX3_orderOfNumbers 215 = .ok (.baload, 1) := by decide +kernel
theorem dX3_orderOfNumbers_216 : decode cX3_orderOfNumbers 216 = .ok (.isub, 1) := by decide +kernel
theorem dX3_orderOfNumbers_133 : decode cX3_orderOfNumbers 133 = .ok (.iload 8, 2) := by decide +kernel
theorem dX3_orderOfNumbers_135 : decode cX3_orderOfNumbers 135 = .ok (.ifCond .ne 43, 3) := by decide +kernel
theorem dX3_orderOfNumbers_138 : decode cX3_orderOfNumbers 138 = .ok (.iload 4, 2) := by decide +kernel
theorem dX3_orderOfNumbers_140 : decode cX3_orderOfNumbers 140 = .ok (.iload 6, 2) := by decide +kernel
theorem dX3_orderOfNumbers_142 : decode cX3_orderOfNumbers 142 = .ok (.if_icmp .ge 36, 3) := by decide +kernel
theorem dX3_orderOfNumbers_145 : decode cX3_orderOfNumbers 145 = .ok (.iload 5, 2) := by decide +kernel
theorem dX3_orderOfNumbers_147 : decode cX3_orderOfNumbers 147 = .ok (.iload 7, 2) := by decide +kernel
theorem dX3_orderOfNumbers_149 : decode cX3_orderOfNumbers 149 = .ok (.if_icmp .ge 29, 3) := by decide +kernel
theorem dX3_orderOfNumbers_152 : decode cX3_orderOfNumbers 152 = .ok (.aload_n 0, 1) := by decide +kernel
theorem dX3_orderOfNumbers_153 : decode cX3_orderOfNumbers 153 = .ok (.getfield 83, 3) := by decide +kernel
theorem dX3_orderOfNumbers_156 : decode cX3_orderOfNumbers 156 = .ok (.iload 4, 2) := by decide +kernel
theorem dX3_orderOfNumbers_158 : decode cX3_orderOfNumbers 158 = .ok (.baload, 1) := by decide +kernel
theorem dX3_orderOfNumbers_159 : decode cX3_orderOfNumbers 159 = .ok (.aload_n 2, 1) := by decide +kernel
theorem dX3_orderOfNumbers_160 : decode cX3_orderOfNumbers 160 = .ok (.getfield 83, 3) := by decide +kernel
theorem dX3_orderOfNumbers_163 : decode cX3_orderOfNumbers 163 = .ok (.iload 5, 2) := by decide +kernel
theorem dX3_orderOfNumbers_165 : decode cX3_orderOfNumbers 165 = .ok (.baload, 1) := by decide +kernel
theorem dX3_orderOfNumbers_166 : decode cX3_orderOfNumbers 166 = .ok (.if_icmp .ne 12, 3) := by decide +kernel
theorem dX3_orderOfNumbers_169 : decode cX3_orderOfNumbers 169 = .ok (.iinc 4 1, 3) := by decide +kernel
theorem dX3_orderOfNumbers_172 : decode cX3_orderOfNumbers 172 = .ok (.iinc 5 1, 3) := by decide +kernel
theorem dX3_orderOfNumbers_175 : decode cX3_orderOfNumbers 175 = .ok (.goto (-42), 3) := by decide +kernel
theorem dX3_orderOfNumbers_120 : decode cX3_orderOfNumbers 120 = .ok (.iload 6, 2) := by decide +kernel
theorem dX3_orderOfNumbers_122 : decode cX3_orderOfNumbers 122 = .ok (.iload 4, 2) := by decide +kernel
theorem dX3_orderOfNumbers_124 : decode cX3_orderOfNumbers 124 = .ok (.isub, 1) := by decide +kernel
theorem dX3_orderOfNumbers_125 : decode cX3_orderOfNumbers 125 = .ok (.iload 7, 2) := by decide +kernel
theorem dX3_orderOfNumbers_127 : decode cX3_orderOfNumbers 127 = .ok (.iload 5, 2) := by decide +kernel
theorem dX3_orderOfNumbers_129 : decode cX3_orderOfNumbers 129 = .ok (.isub, 1) := by decide +kernel
theorem dX3_orderOfNumbers_130 : decode cX3_orderOfNumbers 130 = .ok (.isub, 1) := by decide +kernel
theorem dX3_orderOfNumbers_131 : decode cX3_orderOfNumbers 131 = .ok (.istore 8, 2) := by decide +kernel
theorem dX3_orderOfNumbers_95 : decode cX3_orderOfNumbers 95 = .ok (.iload 5, 2) := by decide +kernel
theorem dX3_orderOfNumbers_97 : decode cX3_orderOfNumbers 97 = .ok (.iload 7, 2) := by decide +kernel
theorem dX3_orderOfNumbers_99 : decode cX3_orderOfNumbers 99 = .ok (.if_icmp .ge 21, 3) := by decide +kernel
theorem dX3_orderOfNumbers_102 : decode cX3_orderOfNumbers 102 = .ok (.aload_n 2, 1) := by decide +kernel
theorem dX3_orderOfNumbers_103 : decode cX3_orderOfNumbers 103 = .ok (.getfield 83, 3) := by decide +kernel
theorem dX3_orderOfNumbers_106 : decode cX3_orderOfNumbers 106 = .ok (.iload 5, 2) := by decide +kernel
theorem dX3_orderOfNumbers_108 : decode cX3_orderOfNumbers 108 = .ok (.baload, 1) := by decide +kernel
theorem dX3_orderOfNumbers_109 : decode cX3_orderOfNumbers 109 = .ok (.bipush 48, 2) := by decide +kernel
theorem dX3_orderOfNumbers_111 : decode cX3_orderOfNumbers 111 = .ok (.if_icmp .ne 9, 3) := by decide +kernel
theorem dX3_orderOfNumbers_114 : decode cX3_orderOfNumbers 114 = .ok (.iinc 5 1, 3) := by decide +kernel
theorem dX3_orderOfNumbers_117 : decode cX3_orderOfNumbers 117 = .ok (.goto (-22), 3) := by decide +kernel
theorem dX3_orderOfNumbers_70 : decode cX3_orderOfNumbers 70 = .ok (.iload 4, 2) := by decide +kernel
theorem dX3_orderOfNumbers_72 : decode cX3_orderOfNumbers 72 = .ok (.iload 6, 2) := by decide +kernel
theorem dX3_orderOfNumbers_74 : decode cX3_orderOfNumbers 74 = .ok (.if_icmp .ge 21, 3) := by decide +kernel
theorem dX3_orderOfNumbers_77 : decode cX3_orderOfNumbers 77 = .ok (.aload_n 0, 1) := by decide +kernel
theorem dX3_orderOfNumbers_78 : decode cX3_orderOfNumbers 78 = .ok (.getfield 83, 3) := by decide +kernel
theorem dX3_orderOfNumbers_81 : decode cX3_orderOfNumbers 81 = .ok (.iload 4, 2) := by decide +kernel
theorem dX3_orderOfNumbers_83 : decode cX3_orderOfNumbers 83 = .ok (.baload, 1) := by decide +kernel
theorem dX3_orderOfNumbers_84 : decode cX3_orderOfNumbers 84 = .ok (.bipush 48, 2) := by decide +kernel
theorem dX3_orderOfNumbers_86 : decode cX3_orderOfNumbers 86 = .ok (.if_icmp .ne 9, 3) := by decide +kernel
theorem dX3_orderOfNumbers_89 : decode cX3_orderOfNumbers 89 = .ok (.iinc 4 1, 3) := by decide +kernel
theorem dX3_orderOfNumbers_92 : decode cX3_orderOfNumbers 92 = .ok (.goto (-22), 3) := by decide +kernel
theorem dX3_orderOfNumbers_0 : decode cX3_orderOfNumbers 0 = .ok (.aload_n 0, 1) := by decide +kernel
theorem dX3_orderOfNumbers_1 : decode cX3_orderOfNumbers 1 = .ok (.getfield 87, 3) := by decide +kernel
theorem dX3_orderOfNumbers_4 : decode cX3_orderOfNumbers 4 = .ok (.iload_n 1, 1) := by decide +kernel
theorem dX3_orderOfNumbers_5 : decode cX3_orderOfNumbers 5 = .ok (.iaload, 1) := by decide +kernel
theorem dX3_orderOfNumbers_6 : decode cX3_orderOfNumbers 6 = .ok (.istore 4, 2) := by decide +kernel
theorem dX3_orderOfNumbers_8 : decode cX3_orderOfNumbers 8 = .ok (.aload_n 2, 1) := by decide +kernel
theorem dX3_orderOfNumbers_9 : decode cX3_orderOfNumbers 9 = .ok (.getfield 87, 3) := by decide +kernel
theorem dX3_orderOfNumbers_12 : decode cX3_orderOfNumbers 12 = .ok (.iload_n 3, 1) := by decide +kernel
theorem dX3_orderOfNumbers_13 : decode cX3_orderOfNumbers 13 = .ok (.iaload, 1) := by decide +kernel
theorem dX3_orderOfNumbers_14 : decode cX3_orderOfNumbers 14 = .ok (.istore 5, 2) := by decide +kernel
theorem dX3_orderOfNumbers_16 : decode cX3_orderOfNumbers 16 = .ok (.aload_n 0, 1) := by decide +kernel
theorem dX3_orderOfNumbers_17 : decode cX3_orderOfNumbers 17 = .ok (.iload_n 1, 1) := by decide +kernel
theorem kX3_digitsEnd : h_ml mX3_digitsEnd 2 := ⟨h_t5 213 rfl rfl, h_t1 5 rfl rfl, ⟨by decide, by decide, by decide +kernel⟩, by decide⟩
theorem lX3_90 : Cond.methodLink RX3 90 mX3_digitsEnd.1 ∈ lw_g := h_t5 211 rfl rfl
theorem sX3_digitsEnd : Cond.static mX3_digitsEnd.1 ∈ lw_g := h_t5 212 rfl rfl
theorem dX3_orderOfNumbers_18 : decode cX3_orderOfNumbers 18 = .ok (.invokestatic 90, 3) := by decide +kernel
theorem dX3_orderOfNumbers_21 : decode cX3_orderOfNumbers 21 = .ok (.istore 6, 2) := by decide +kernel
theorem dX3_orderOfNumbers_23 : decode cX3_orderOfNumbers 23 = .ok (.aload_n 2, 1) := by decide +kernel
theorem dX3_orderOfNumbers_24 : decode cX3_orderOfNumbers 24 = .ok (.iload_n 3, 1) := by decide +kernel
theorem dX3_orderOfNumbers_25 : decode cX3_orderOfNumbers 25 = .ok (.invokestatic 90, 3) := by decide +kernel
theorem dX3_orderOfNumbers_28 : decode cX3_orderOfNumbers 28 = .ok (.istore 7, 2) := by decide +kernel
theorem dX3_orderOfNumbers_30 : decode cX3_orderOfNumbers 30 = .ok (.iload 4, 2) := by decide +kernel
theorem dX3_orderOfNumbers_32 : decode cX3_orderOfNumbers 32 = .ok (.iload 6, 2) := by decide +kernel
theorem dX3_orderOfNumbers_34 : decode cX3_orderOfNumbers 34 = .ok (.if_icmp .eq 10, 3) := by decide +kernel
theorem dX3_orderOfNumbers_37 : decode cX3_orderOfNumbers 37 = .ok (.iload 5, 2) := by decide +kernel
theorem dX3_orderOfNumbers_39 : decode cX3_orderOfNumbers 39 = .ok (.iload 7, 2) := by decide +kernel
theorem dX3_orderOfNumbers_41 : decode cX3_orderOfNumbers 41 = .ok (.if_icmp .ne 29, 3) := by decide +kernel
def fb_X3_orderOfNumbers_56  (x5 : Int32) (x7 : Int32) (bs0 : Bool) (s : uS) : Option Int32 := if x5 = x7 then (some ((bI bs0) - 1)) else (some ((bI bs0) - 0))
set_option maxRecDepth 100000 in
set_option maxHeartbeats 4000000 in
theorem xb_X3_orderOfNumbers_56 {l : Launch} {D : va_G} {A : Nat → ClassId} {B : Nat} {Z : State → Heap → Prop} {vF : Value} (uk : uK B Z vF)   {x5 : Int32} {x7 : Int32} {bs0 : Bool} {s : uS} {r : Int32}  (h : fb_X3_orderOfNumbers_56  x5 x7 bs0 s = some r) : GU l D A B Z mX3_orderOfNumbers 1 (s, some (.int r)) s 56 [(5, .int x5), (7, .int x7)] [.int (bI bs0)] := by
  unfold fb_X3_orderOfNumbers_56 at h
  refine uu_iload dX3_orderOfNumbers_56 (List.mem_of_getElem? (i := 0) rfl) ?_
  refine uu_iload dX3_orderOfNumbers_58 (List.mem_of_getElem? (i := 1) rfl) ?_
  refine uu_icmp_ne (tgt := 67) dX3_orderOfNumbers_60 (by decide) (fun c1 => ?_) (fun c1 => ?_)
  · replace h := uu_neg c1 h
    refine uu_iconst (v := 0) dX3_orderOfNumbers_67 (by decide) ?_
    refine uu_isub dX3_orderOfNumbers_68 ?_
    have hr := Option.some.inj h
    subst hr
    exact uu_iret rfl dX3_orderOfNumbers_69
  · replace h := uu_pos c1 h
    refine uu_iconst (v := 1) dX3_orderOfNumbers_63 (by decide) ?_
    refine uu_goto (tgt := 68) dX3_orderOfNumbers_64 (by decide) ?_
    refine uu_isub dX3_orderOfNumbers_68 ?_
    have hr := Option.some.inj h
    subst hr
    exact uu_iret rfl dX3_orderOfNumbers_69
def fb_X3_orderOfNumbers_44  (x4 : Int32) (x5 : Int32) (x6 : Int32) (x7 : Int32) (s : uS) : Option Int32 := if x4 = x6 then (fb_X3_orderOfNumbers_56 x5 x7 true s) else (fb_X3_orderOfNumbers_56 x5 x7 false s)
set_option maxRecDepth 100000 in
set_option maxHeartbeats 4000000 in
theorem xb_X3_orderOfNumbers_44 {l : Launch} {D : va_G} {A : Nat → ClassId} {B : Nat} {Z : State → Heap → Prop} {vF : Value} (uk : uK B Z vF)   {x4 : Int32} {x5 : Int32} {x6 : Int32} {x7 : Int32} {s : uS} {r : Int32}  (h : fb_X3_orderOfNumbers_44  x4 x5 x6 x7 s = some r) : GU l D A B Z mX3_orderOfNumbers 1 (s, some (.int r)) s 44 [(4, .int x4), (5, .int x5), (6, .int x6), (7, .int x7)] [] := by
  unfold fb_X3_orderOfNumbers_44 at h
  refine uu_iload dX3_orderOfNumbers_44 (List.mem_of_getElem? (i := 0) rfl) ?_
  refine uu_iload dX3_orderOfNumbers_46 (List.mem_of_getElem? (i := 2) rfl) ?_
  refine uu_icmp_ne (tgt := 55) dX3_orderOfNumbers_48 (by decide) (fun c1 => ?_) (fun c1 => ?_)
  · replace h := uu_neg c1 h
    refine uu_iconst (v := 0) dX3_orderOfNumbers_55 (by decide) ?_
    refine uu_lv [1, 3] (lv' := [(5, .int x5), (7, .int x7)]) rfl ?_
    exact xb_X3_orderOfNumbers_56 uk  h
  · replace h := uu_pos c1 h
    refine uu_iconst (v := 1) dX3_orderOfNumbers_51 (by decide) ?_
    refine uu_goto (tgt := 56) dX3_orderOfNumbers_52 (by decide) ?_
    refine uu_lv [1, 3] (lv' := [(5, .int x5), (7, .int x7)]) rfl ?_
    exact xb_X3_orderOfNumbers_56 uk  h
def fb_X3_orderOfNumbers_178  (k0 : Nat) (k2 : Nat) (x4 : Int32) (x5 : Int32) (x6 : Int32) (x7 : Int32) (x8 : Int32) (s : uS) : Option Int32 := if x8 = 0 then (if x6 ≤ x4 then (some x8) else (if x5 < x7 then ((iget 21 s (k0 + 1) x4).bind fun v4 => (iget 21 s (k2 + 1) x5).bind fun v6 => some (v4 - v6)) else (some x8))) else (some x8)
set_option maxRecDepth 100000 in
set_option maxHeartbeats 4000000 in
theorem xb_X3_orderOfNumbers_178 {l : Launch} {D : va_G} {A : Nat → ClassId} {B : Nat} {Z : State → Heap → Prop} {vF : Value} (uk : uK B Z vF)   {k0 : Nat} {k2 : Nat} {x4 : Int32} {x5 : Int32} {x6 : Int32} {x7 : Int32} {x8 : Int32} {s : uS} {r : Int32} (hk0 : uSo k0 9) (hk2 : uSo k2 9) (h : fb_X3_orderOfNumbers_178  k0 k2 x4 x5 x6 x7 x8 s = some r) : GU l D A B Z mX3_orderOfNumbers 1 (s, some (.int r)) s 178 [(0, .ref (B + k0)), (2, .ref (B + k2)), (4, .int x4), (5, .int x5), (6, .int x6), (7, .int x7), (8, .int x8)] [] := by
  unfold fb_X3_orderOfNumbers_178 at h
  refine uu_iload dX3_orderOfNumbers_178 (List.mem_of_getElem? (i := 6) rfl) ?_
  refine uu_if_ne (tgt := 197) dX3_orderOfNumbers_180 (by decide) (fun c1 => ?_) (fun c1 => ?_)
  · replace h := uu_neg c1 h
    refine uu_iload dX3_orderOfNumbers_197 (List.mem_of_getElem? (i := 6) rfl) ?_
    refine uu_goto (tgt := 217) dX3_orderOfNumbers_199 (by decide) ?_
    have hr := Option.some.inj h
    subst hr
    exact uu_iret rfl dX3_orderOfNumbers_217
  · replace h := uu_pos c1 h
    refine uu_iload dX3_orderOfNumbers_183 (List.mem_of_getElem? (i := 2) rfl) ?_
    refine uu_iload dX3_orderOfNumbers_185 (List.mem_of_getElem? (i := 4) rfl) ?_
    refine uu_icmp_ge (tgt := 197) dX3_orderOfNumbers_187 (by decide) (fun c2 => ?_) (fun c2 => ?_)
    · replace h := uu_pos c2 h
      refine uu_iload dX3_orderOfNumbers_197 (List.mem_of_getElem? (i := 6) rfl) ?_
      refine uu_goto (tgt := 217) dX3_orderOfNumbers_199 (by decide) ?_
      have hr := Option.some.inj h
      subst hr
      exact uu_iret rfl dX3_orderOfNumbers_217
    · replace h := uu_neg c2 h
      refine uu_iload dX3_orderOfNumbers_190 (List.mem_of_getElem? (i := 3) rfl) ?_
      refine uu_iload dX3_orderOfNumbers_192 (List.mem_of_getElem? (i := 5) rfl) ?_
      refine uu_icmp_lt (tgt := 202) dX3_orderOfNumbers_194 (by decide) (fun c3 => ?_) (fun c3 => ?_)
      · replace h := uu_pos c3 h
        refine uu_aload_n dX3_orderOfNumbers_202 rfl (List.mem_of_getElem? (i := 0) rfl) ?_
        refine uu_getc (ci := 9) (N := 6) fX3_83 (by decide) hk0.is (by decide) (c := 1) (by decide) (k2 := k0 + 1) rfl dX3_orderOfNumbers_203 ?_
        refine uu_iload dX3_orderOfNumbers_206 (List.mem_of_getElem? (i := 2) rfl) ?_
        obtain ⟨v4, e5, h⟩ := uu_ob h
        refine uu_bald e5 dX3_orderOfNumbers_208 ?_
        refine uu_aload_n dX3_orderOfNumbers_209 rfl (List.mem_of_getElem? (i := 1) rfl) ?_
        refine uu_getc (ci := 9) (N := 6) fX3_83 (by decide) hk2.is (by decide) (c := 1) (by decide) (k2 := k2 + 1) rfl dX3_orderOfNumbers_210 ?_
        refine uu_iload dX3_orderOfNumbers_213 (List.mem_of_getElem? (i := 3) rfl) ?_
        obtain ⟨v6, e7, h⟩ := uu_ob h
        refine uu_bald e7 dX3_orderOfNumbers_215 ?_
        refine uu_isub dX3_orderOfNumbers_216 ?_
        have hr := Option.some.inj h
        subst hr
        exact uu_iret rfl dX3_orderOfNumbers_217
      · replace h := uu_neg c3 h
        refine uu_iload dX3_orderOfNumbers_197 (List.mem_of_getElem? (i := 6) rfl) ?_
        refine uu_goto (tgt := 217) dX3_orderOfNumbers_199 (by decide) ?_
        have hr := Option.some.inj h
        subst hr
        exact uu_iret rfl dX3_orderOfNumbers_217
def fb_X3_orderOfNumbers_133 (K133 : Nat → Nat → Int32 → Int32 → Int32 → Int32 → Int32 → uS → Option Int32) (k0 : Nat) (k2 : Nat) (x4 : Int32) (x5 : Int32) (x6 : Int32) (x7 : Int32) (x8 : Int32) (s : uS) : Option Int32 := if x8 = 0 then (if x6 ≤ x4 then (fb_X3_orderOfNumbers_178 k0 k2 x4 x5 x6 x7 x8 s) else (if x7 ≤ x5 then (fb_X3_orderOfNumbers_178 k0 k2 x4 x5 x6 x7 x8 s) else ((iget 21 s (k0 + 1) x4).bind fun v4 => (iget 21 s (k2 + 1) x5).bind fun v6 => if v4 = v6 then (K133 k0 k2 (x4 + 1) (x5 + 1) x6 x7 x8 s) else (fb_X3_orderOfNumbers_178 k0 k2 x4 x5 x6 x7 x8 s)))) else (fb_X3_orderOfNumbers_178 k0 k2 x4 x5 x6 x7 x8 s)
set_option maxRecDepth 100000 in
set_option maxHeartbeats 4000000 in
theorem xb_X3_orderOfNumbers_133 {l : Launch} {D : va_G} {A : Nat → ClassId} {B : Nat} {Z : State → Heap → Prop} {vF : Value} (uk : uK B Z vF) {K133 : Nat → Nat → Int32 → Int32 → Int32 → Int32 → Int32 → uS → Option Int32} (hK133 : ∀ (k0 : Nat) (k2 : Nat) (x4 : Int32) (x5 : Int32) (x6 : Int32) (x7 : Int32) (x8 : Int32) (hk0 : uSo k0 9) (hk2 : uSo k2 9) (s : uS) (r : Int32), K133 k0 k2 x4 x5 x6 x7 x8 s = some r → GU l D A B Z mX3_orderOfNumbers 1 (s, some (.int r)) s 133 [(0, .ref (B + k0)), (2, .ref (B + k2)), (4, .int x4), (5, .int x5), (6, .int x6), (7, .int x7), (8, .int x8)] []) {k0 : Nat} {k2 : Nat} {x4 : Int32} {x5 : Int32} {x6 : Int32} {x7 : Int32} {x8 : Int32} {s : uS} {r : Int32} (hk0 : uSo k0 9) (hk2 : uSo k2 9) (h : fb_X3_orderOfNumbers_133 K133 k0 k2 x4 x5 x6 x7 x8 s = some r) : GU l D A B Z mX3_orderOfNumbers 1 (s, some (.int r)) s 133 [(0, .ref (B + k0)), (2, .ref (B + k2)), (4, .int x4), (5, .int x5), (6, .int x6), (7, .int x7), (8, .int x8)] [] := by
  unfold fb_X3_orderOfNumbers_133 at h
  refine uu_iload dX3_orderOfNumbers_133 (List.mem_of_getElem? (i := 6) rfl) ?_
  refine uu_if_ne (tgt := 178) dX3_orderOfNumbers_135 (by decide) (fun c1 => ?_) (fun c1 => ?_)
  · replace h := uu_neg c1 h
    exact xb_X3_orderOfNumbers_178 uk hk0 hk2 h
  · replace h := uu_pos c1 h
    refine uu_iload dX3_orderOfNumbers_138 (List.mem_of_getElem? (i := 2) rfl) ?_
    refine uu_iload dX3_orderOfNumbers_140 (List.mem_of_getElem? (i := 4) rfl) ?_
    refine uu_icmp_ge (tgt := 178) dX3_orderOfNumbers_142 (by decide) (fun c2 => ?_) (fun c2 => ?_)
    · replace h := uu_pos c2 h
      exact xb_X3_orderOfNumbers_178 uk hk0 hk2 h
    · replace h := uu_neg c2 h
      refine uu_iload dX3_orderOfNumbers_145 (List.mem_of_getElem? (i := 3) rfl) ?_
      refine uu_iload dX3_orderOfNumbers_147 (List.mem_of_getElem? (i := 5) rfl) ?_
      refine uu_icmp_ge (tgt := 178) dX3_orderOfNumbers_149 (by decide) (fun c3 => ?_) (fun c3 => ?_)
      · replace h := uu_pos c3 h
        exact xb_X3_orderOfNumbers_178 uk hk0 hk2 h
      · replace h := uu_neg c3 h
        refine uu_aload_n dX3_orderOfNumbers_152 rfl (List.mem_of_getElem? (i := 0) rfl) ?_
        refine uu_getc (ci := 9) (N := 6) fX3_83 (by decide) hk0.is (by decide) (c := 1) (by decide) (k2 := k0 + 1) rfl dX3_orderOfNumbers_153 ?_
        refine uu_iload dX3_orderOfNumbers_156 (List.mem_of_getElem? (i := 2) rfl) ?_
        obtain ⟨v4, e5, h⟩ := uu_ob h
        refine uu_bald e5 dX3_orderOfNumbers_158 ?_
        refine uu_aload_n dX3_orderOfNumbers_159 rfl (List.mem_of_getElem? (i := 1) rfl) ?_
        refine uu_getc (ci := 9) (N := 6) fX3_83 (by decide) hk2.is (by decide) (c := 1) (by decide) (k2 := k2 + 1) rfl dX3_orderOfNumbers_160 ?_
        refine uu_iload dX3_orderOfNumbers_163 (List.mem_of_getElem? (i := 3) rfl) ?_
        obtain ⟨v6, e7, h⟩ := uu_ob h
        refine uu_bald e7 dX3_orderOfNumbers_165 ?_
        refine uu_icmp_ne (tgt := 178) dX3_orderOfNumbers_166 (by decide) (fun c8 => ?_) (fun c8 => ?_)
        · replace h := uu_neg c8 h
          exact xb_X3_orderOfNumbers_178 uk hk0 hk2 h
        · replace h := uu_pos c8 h
          refine uu_iinc (v := x4 + 1) dX3_orderOfNumbers_169 (k := 2) rfl rfl (by decide) rfl ?_
          refine uu_iinc (v := x5 + 1) dX3_orderOfNumbers_172 (k := 3) rfl rfl (by decide) rfl ?_
          refine uu_goto (tgt := 133) dX3_orderOfNumbers_175 (by decide) ?_
          refine uu_lv [2, 3, 1, 0, 4, 5, 6] (lv' := [(0, .ref (B + k0)), (2, .ref (B + k2)), (4, .int (x4 + 1)), (5, .int (x5 + 1)), (6, .int x6), (7, .int x7), (8, .int x8)]) rfl ?_
          exact hK133 k0 k2 (x4 + 1) (x5 + 1) x6 x7 x8 hk0 hk2 _ _ h
def fn_X3_orderOfNumbers_133  : Nat → Nat → Nat → Int32 → Int32 → Int32 → Int32 → Int32 → uS → Option Int32
  | 0 => fun _ _ _ _ _ _ _ _ => none
  | n + 1 => fb_X3_orderOfNumbers_133 (fn_X3_orderOfNumbers_133  n)
set_option maxRecDepth 100000 in
set_option maxHeartbeats 4000000 in
theorem xn_X3_orderOfNumbers_133 {l : Launch} {D : va_G} {A : Nat → ClassId} {B : Nat} {Z : State → Heap → Prop} {vF : Value} (uk : uK B Z vF)   : ∀ (n : Nat) (k0 : Nat) (k2 : Nat) (x4 : Int32) (x5 : Int32) (x6 : Int32) (x7 : Int32) (x8 : Int32) (hk0 : uSo k0 9) (hk2 : uSo k2 9) (s : uS) (r : Int32), fn_X3_orderOfNumbers_133  n k0 k2 x4 x5 x6 x7 x8 s = some r → GU l D A B Z mX3_orderOfNumbers 1 (s, some (.int r)) s 133 [(0, .ref (B + k0)), (2, .ref (B + k2)), (4, .int x4), (5, .int x5), (6, .int x6), (7, .int x7), (8, .int x8)] [] := by
  intro n
  induction n with
  | zero => intro k0 k2 x4 x5 x6 x7 x8 hk0 hk2 s r h
            cases h
  | succ n ih => intro k0 k2 x4 x5 x6 x7 x8 hk0 hk2 s r h
                 exact xb_X3_orderOfNumbers_133 uk ih hk0 hk2 h
def fb_X3_orderOfNumbers_120  (k0 : Nat) (k2 : Nat) (x4 : Int32) (x5 : Int32) (x6 : Int32) (x7 : Int32) (s : uS) : Option Int32 := fn_X3_orderOfNumbers_133 uFu k0 k2 x4 x5 x6 x7 ((x6 - x4) - (x7 - x5)) s
set_option maxRecDepth 100000 in
set_option maxHeartbeats 4000000 in
theorem xb_X3_orderOfNumbers_120 {l : Launch} {D : va_G} {A : Nat → ClassId} {B : Nat} {Z : State → Heap → Prop} {vF : Value} (uk : uK B Z vF)   {k0 : Nat} {k2 : Nat} {x4 : Int32} {x5 : Int32} {x6 : Int32} {x7 : Int32} {s : uS} {r : Int32} (hk0 : uSo k0 9) (hk2 : uSo k2 9) (h : fb_X3_orderOfNumbers_120  k0 k2 x4 x5 x6 x7 s = some r) : GU l D A B Z mX3_orderOfNumbers 1 (s, some (.int r)) s 120 [(0, .ref (B + k0)), (2, .ref (B + k2)), (4, .int x4), (5, .int x5), (6, .int x6), (7, .int x7)] [] := by
  unfold fb_X3_orderOfNumbers_120 at h
  refine uu_iload dX3_orderOfNumbers_120 (List.mem_of_getElem? (i := 4) rfl) ?_
  refine uu_iload dX3_orderOfNumbers_122 (List.mem_of_getElem? (i := 2) rfl) ?_
  refine uu_isub dX3_orderOfNumbers_124 ?_
  refine uu_iload dX3_orderOfNumbers_125 (List.mem_of_getElem? (i := 5) rfl) ?_
  refine uu_iload dX3_orderOfNumbers_127 (List.mem_of_getElem? (i := 3) rfl) ?_
  refine uu_isub dX3_orderOfNumbers_129 ?_
  refine uu_isub dX3_orderOfNumbers_130 ?_
  refine uu_istore dX3_orderOfNumbers_131 (by decide) rfl ?_
  refine uu_lv [1, 2, 3, 4, 5, 6, 0] (lv' := [(0, .ref (B + k0)), (2, .ref (B + k2)), (4, .int x4), (5, .int x5), (6, .int x6), (7, .int x7), (8, .int ((x6 - x4) - (x7 - x5)))]) rfl ?_
  exact xn_X3_orderOfNumbers_133 uk  _ _ _ _ _ _ _ _ hk0 hk2 _ _ h
def fb_X3_orderOfNumbers_95 (K95 : Nat → Nat → Int32 → Int32 → Int32 → Int32 → uS → Option Int32) (k0 : Nat) (k2 : Nat) (x4 : Int32) (x5 : Int32) (x6 : Int32) (x7 : Int32) (s : uS) : Option Int32 := if x7 ≤ x5 then (fb_X3_orderOfNumbers_120 k0 k2 x4 x5 x6 x7 s) else ((iget 21 s (k2 + 1) x5).bind fun v2 => if v2 = 48 then (K95 k0 k2 x4 (x5 + 1) x6 x7 s) else (fb_X3_orderOfNumbers_120 k0 k2 x4 x5 x6 x7 s))
set_option maxRecDepth 100000 in
set_option maxHeartbeats 4000000 in
theorem xb_X3_orderOfNumbers_95 {l : Launch} {D : va_G} {A : Nat → ClassId} {B : Nat} {Z : State → Heap → Prop} {vF : Value} (uk : uK B Z vF) {K95 : Nat → Nat → Int32 → Int32 → Int32 → Int32 → uS → Option Int32} (hK95 : ∀ (k0 : Nat) (k2 : Nat) (x4 : Int32) (x5 : Int32) (x6 : Int32) (x7 : Int32) (hk0 : uSo k0 9) (hk2 : uSo k2 9) (s : uS) (r : Int32), K95 k0 k2 x4 x5 x6 x7 s = some r → GU l D A B Z mX3_orderOfNumbers 1 (s, some (.int r)) s 95 [(0, .ref (B + k0)), (2, .ref (B + k2)), (4, .int x4), (5, .int x5), (6, .int x6), (7, .int x7)] []) {k0 : Nat} {k2 : Nat} {x4 : Int32} {x5 : Int32} {x6 : Int32} {x7 : Int32} {s : uS} {r : Int32} (hk0 : uSo k0 9) (hk2 : uSo k2 9) (h : fb_X3_orderOfNumbers_95 K95 k0 k2 x4 x5 x6 x7 s = some r) : GU l D A B Z mX3_orderOfNumbers 1 (s, some (.int r)) s 95 [(0, .ref (B + k0)), (2, .ref (B + k2)), (4, .int x4), (5, .int x5), (6, .int x6), (7, .int x7)] [] := by
  unfold fb_X3_orderOfNumbers_95 at h
  refine uu_iload dX3_orderOfNumbers_95 (List.mem_of_getElem? (i := 3) rfl) ?_
  refine uu_iload dX3_orderOfNumbers_97 (List.mem_of_getElem? (i := 5) rfl) ?_
  refine uu_icmp_ge (tgt := 120) dX3_orderOfNumbers_99 (by decide) (fun c1 => ?_) (fun c1 => ?_)
  · replace h := uu_pos c1 h
    exact xb_X3_orderOfNumbers_120 uk hk0 hk2 h
  · replace h := uu_neg c1 h
    refine uu_aload_n dX3_orderOfNumbers_102 rfl (List.mem_of_getElem? (i := 1) rfl) ?_
    refine uu_getc (ci := 9) (N := 6) fX3_83 (by decide) hk2.is (by decide) (c := 1) (by decide) (k2 := k2 + 1) rfl dX3_orderOfNumbers_103 ?_
    refine uu_iload dX3_orderOfNumbers_106 (List.mem_of_getElem? (i := 3) rfl) ?_
    obtain ⟨v2, e3, h⟩ := uu_ob h
    refine uu_bald e3 dX3_orderOfNumbers_108 ?_
    refine uu_bipush (v := 48) dX3_orderOfNumbers_109 (by decide) ?_
    refine uu_icmp_ne (tgt := 120) dX3_orderOfNumbers_111 (by decide) (fun c4 => ?_) (fun c4 => ?_)
    · replace h := uu_neg c4 h
      exact xb_X3_orderOfNumbers_120 uk hk0 hk2 h
    · replace h := uu_pos c4 h
      refine uu_iinc (v := x5 + 1) dX3_orderOfNumbers_114 (k := 3) rfl rfl (by decide) rfl ?_
      refine uu_goto (tgt := 95) dX3_orderOfNumbers_117 (by decide) ?_
      refine uu_lv [1, 2, 3, 0, 4, 5] (lv' := [(0, .ref (B + k0)), (2, .ref (B + k2)), (4, .int x4), (5, .int (x5 + 1)), (6, .int x6), (7, .int x7)]) rfl ?_
      exact hK95 k0 k2 x4 (x5 + 1) x6 x7 hk0 hk2 _ _ h
def fn_X3_orderOfNumbers_95  : Nat → Nat → Nat → Int32 → Int32 → Int32 → Int32 → uS → Option Int32
  | 0 => fun _ _ _ _ _ _ _ => none
  | n + 1 => fb_X3_orderOfNumbers_95 (fn_X3_orderOfNumbers_95  n)
set_option maxRecDepth 100000 in
set_option maxHeartbeats 4000000 in
theorem xn_X3_orderOfNumbers_95 {l : Launch} {D : va_G} {A : Nat → ClassId} {B : Nat} {Z : State → Heap → Prop} {vF : Value} (uk : uK B Z vF)   : ∀ (n : Nat) (k0 : Nat) (k2 : Nat) (x4 : Int32) (x5 : Int32) (x6 : Int32) (x7 : Int32) (hk0 : uSo k0 9) (hk2 : uSo k2 9) (s : uS) (r : Int32), fn_X3_orderOfNumbers_95  n k0 k2 x4 x5 x6 x7 s = some r → GU l D A B Z mX3_orderOfNumbers 1 (s, some (.int r)) s 95 [(0, .ref (B + k0)), (2, .ref (B + k2)), (4, .int x4), (5, .int x5), (6, .int x6), (7, .int x7)] [] := by
  intro n
  induction n with
  | zero => intro k0 k2 x4 x5 x6 x7 hk0 hk2 s r h
            cases h
  | succ n ih => intro k0 k2 x4 x5 x6 x7 hk0 hk2 s r h
                 exact xb_X3_orderOfNumbers_95 uk ih hk0 hk2 h
def fb_X3_orderOfNumbers_70 (K70 : Nat → Nat → Int32 → Int32 → Int32 → Int32 → uS → Option Int32) (k0 : Nat) (k2 : Nat) (x4 : Int32) (x5 : Int32) (x6 : Int32) (x7 : Int32) (s : uS) : Option Int32 := if x6 ≤ x4 then (fn_X3_orderOfNumbers_95 uFu k0 k2 x4 x5 x6 x7 s) else ((iget 21 s (k0 + 1) x4).bind fun v2 => if v2 = 48 then (K70 k0 k2 (x4 + 1) x5 x6 x7 s) else (fn_X3_orderOfNumbers_95 uFu k0 k2 x4 x5 x6 x7 s))
set_option maxRecDepth 100000 in
set_option maxHeartbeats 4000000 in
theorem xb_X3_orderOfNumbers_70 {l : Launch} {D : va_G} {A : Nat → ClassId} {B : Nat} {Z : State → Heap → Prop} {vF : Value} (uk : uK B Z vF) {K70 : Nat → Nat → Int32 → Int32 → Int32 → Int32 → uS → Option Int32} (hK70 : ∀ (k0 : Nat) (k2 : Nat) (x4 : Int32) (x5 : Int32) (x6 : Int32) (x7 : Int32) (hk0 : uSo k0 9) (hk2 : uSo k2 9) (s : uS) (r : Int32), K70 k0 k2 x4 x5 x6 x7 s = some r → GU l D A B Z mX3_orderOfNumbers 1 (s, some (.int r)) s 70 [(0, .ref (B + k0)), (2, .ref (B + k2)), (4, .int x4), (5, .int x5), (6, .int x6), (7, .int x7)] []) {k0 : Nat} {k2 : Nat} {x4 : Int32} {x5 : Int32} {x6 : Int32} {x7 : Int32} {s : uS} {r : Int32} (hk0 : uSo k0 9) (hk2 : uSo k2 9) (h : fb_X3_orderOfNumbers_70 K70 k0 k2 x4 x5 x6 x7 s = some r) : GU l D A B Z mX3_orderOfNumbers 1 (s, some (.int r)) s 70 [(0, .ref (B + k0)), (2, .ref (B + k2)), (4, .int x4), (5, .int x5), (6, .int x6), (7, .int x7)] [] := by
  unfold fb_X3_orderOfNumbers_70 at h
  refine uu_iload dX3_orderOfNumbers_70 (List.mem_of_getElem? (i := 2) rfl) ?_
  refine uu_iload dX3_orderOfNumbers_72 (List.mem_of_getElem? (i := 4) rfl) ?_
  refine uu_icmp_ge (tgt := 95) dX3_orderOfNumbers_74 (by decide) (fun c1 => ?_) (fun c1 => ?_)
  · replace h := uu_pos c1 h
    exact xn_X3_orderOfNumbers_95 uk  _ _ _ _ _ _ _ hk0 hk2 _ _ h
  · replace h := uu_neg c1 h
    refine uu_aload_n dX3_orderOfNumbers_77 rfl (List.mem_of_getElem? (i := 0) rfl) ?_
    refine uu_getc (ci := 9) (N := 6) fX3_83 (by decide) hk0.is (by decide) (c := 1) (by decide) (k2 := k0 + 1) rfl dX3_orderOfNumbers_78 ?_
    refine uu_iload dX3_orderOfNumbers_81 (List.mem_of_getElem? (i := 2) rfl) ?_
    obtain ⟨v2, e3, h⟩ := uu_ob h
    refine uu_bald e3 dX3_orderOfNumbers_83 ?_
    refine uu_bipush (v := 48) dX3_orderOfNumbers_84 (by decide) ?_
    refine uu_icmp_ne (tgt := 95) dX3_orderOfNumbers_86 (by decide) (fun c4 => ?_) (fun c4 => ?_)
    · replace h := uu_neg c4 h
      exact xn_X3_orderOfNumbers_95 uk  _ _ _ _ _ _ _ hk0 hk2 _ _ h
    · replace h := uu_pos c4 h
      refine uu_iinc (v := x4 + 1) dX3_orderOfNumbers_89 (k := 2) rfl rfl (by decide) rfl ?_
      refine uu_goto (tgt := 70) dX3_orderOfNumbers_92 (by decide) ?_
      refine uu_lv [1, 2, 0, 3, 4, 5] (lv' := [(0, .ref (B + k0)), (2, .ref (B + k2)), (4, .int (x4 + 1)), (5, .int x5), (6, .int x6), (7, .int x7)]) rfl ?_
      exact hK70 k0 k2 (x4 + 1) x5 x6 x7 hk0 hk2 _ _ h
def fn_X3_orderOfNumbers_70  : Nat → Nat → Nat → Int32 → Int32 → Int32 → Int32 → uS → Option Int32
  | 0 => fun _ _ _ _ _ _ _ => none
  | n + 1 => fb_X3_orderOfNumbers_70 (fn_X3_orderOfNumbers_70  n)
set_option maxRecDepth 100000 in
set_option maxHeartbeats 4000000 in
theorem xn_X3_orderOfNumbers_70 {l : Launch} {D : va_G} {A : Nat → ClassId} {B : Nat} {Z : State → Heap → Prop} {vF : Value} (uk : uK B Z vF)   : ∀ (n : Nat) (k0 : Nat) (k2 : Nat) (x4 : Int32) (x5 : Int32) (x6 : Int32) (x7 : Int32) (hk0 : uSo k0 9) (hk2 : uSo k2 9) (s : uS) (r : Int32), fn_X3_orderOfNumbers_70  n k0 k2 x4 x5 x6 x7 s = some r → GU l D A B Z mX3_orderOfNumbers 1 (s, some (.int r)) s 70 [(0, .ref (B + k0)), (2, .ref (B + k2)), (4, .int x4), (5, .int x5), (6, .int x6), (7, .int x7)] [] := by
  intro n
  induction n with
  | zero => intro k0 k2 x4 x5 x6 x7 hk0 hk2 s r h
            cases h
  | succ n ih => intro k0 k2 x4 x5 x6 x7 hk0 hk2 s r h
                 exact xb_X3_orderOfNumbers_70 uk ih hk0 hk2 h
def fn_X3_orderOfNumbers (k0 : Nat) (x1 : Int32) (k2 : Nat) (x3 : Int32) (s : uS) : Option Int32 := (iget 20 s (k0 + 2) x1).bind fun v1 => (iget 20 s (k2 + 2) x3).bind fun v3 => (fn_X3_digitsEnd k0 x1 s).bind fun v5 => (fn_X3_digitsEnd k2 x3 s).bind fun v7 => if v1 = v5 then (fb_X3_orderOfNumbers_44 v1 v3 v5 v7 s) else (if v3 = v7 then (fb_X3_orderOfNumbers_44 v1 v3 v5 v7 s) else (fn_X3_orderOfNumbers_70 uFu k0 k2 v1 v3 v5 v7 s))
set_option maxRecDepth 100000 in
set_option maxHeartbeats 4000000 in
theorem xc_X3_orderOfNumbers {l : Launch} {D : va_G} {A : Nat → ClassId} {B : Nat} {Z : State → Heap → Prop} {vF : Value} (uk : uK B Z vF) {k0 : Nat} {x1 : Int32} {k2 : Nat} {x3 : Int32} {s : uS} {r : Int32} (hk0 : uSo k0 9) (hk2 : uSo k2 9) (h : fn_X3_orderOfNumbers k0 x1 k2 x3 s = some r) : CU l D A B Z 1 mX3_orderOfNumbers s [.ref (B + k0), .int x1, .ref (B + k2), .int x3] (s, some (.int r)) := by
  unfold fn_X3_orderOfNumbers at h
  refine cu_of rfl uk.1.1 (Nat.le_of_ble_eq_true rfl) ?_
  show GU _ _ _ _ _ _ _ _ _ 0 [(0, .ref (B + k0)), (1, .int x1), (2, .ref (B + k2)), (3, .int x3)] []
  refine uu_aload_n dX3_orderOfNumbers_0 rfl (List.mem_of_getElem? (i := 0) rfl) ?_
  refine uu_getc (ci := 9) (N := 6) fX3_87 (by decide) hk0.is (by decide) (c := 2) (by decide) (k2 := k0 + 2) rfl dX3_orderOfNumbers_1 ?_
  refine uu_iload_n dX3_orderOfNumbers_4 rfl (List.mem_of_getElem? (i := 1) rfl) ?_
  obtain ⟨v1, e2, h⟩ := uu_ob h
  refine uu_iald e2 dX3_orderOfNumbers_5 ?_
  refine uu_istore dX3_orderOfNumbers_6 (by decide) rfl ?_
  refine uu_aload_n dX3_orderOfNumbers_8 rfl (List.mem_of_getElem? (i := 3) rfl) ?_
  refine uu_getc (ci := 9) (N := 6) fX3_87 (by decide) hk2.is (by decide) (c := 2) (by decide) (k2 := k2 + 2) rfl dX3_orderOfNumbers_9 ?_
  refine uu_iload_n dX3_orderOfNumbers_12 rfl (List.mem_of_getElem? (i := 4) rfl) ?_
  obtain ⟨v3, e4, h⟩ := uu_ob h
  refine uu_iald e4 dX3_orderOfNumbers_13 ?_
  refine uu_istore dX3_orderOfNumbers_14 (by decide) rfl ?_
  refine uu_aload_n dX3_orderOfNumbers_16 rfl (List.mem_of_getElem? (i := 2) rfl) ?_
  refine uu_iload_n dX3_orderOfNumbers_17 rfl (List.mem_of_getElem? (i := 3) rfl) ?_
  obtain ⟨v5, e6, h⟩ := uu_ob h
  refine uu_cs (d1 := 0) (As := [.ref (B + k0), .int x1]) (st := []) (st' := [.int v5]) (xc_X3_digitsEnd uk hk0 e6) kX3_digitsEnd lX3_90 sX3_digitsEnd (by decide) (Nat.le_of_ble_eq_true rfl) dX3_orderOfNumbers_18 rfl ?_
  refine uu_istore dX3_orderOfNumbers_21 (by decide) rfl ?_
  refine uu_aload_n dX3_orderOfNumbers_23 rfl (List.mem_of_getElem? (i := 5) rfl) ?_
  refine uu_iload_n dX3_orderOfNumbers_24 rfl (List.mem_of_getElem? (i := 6) rfl) ?_
  obtain ⟨v7, e8, h⟩ := uu_ob h
  refine uu_cs (d1 := 0) (As := [.ref (B + k2), .int x3]) (st := []) (st' := [.int v7]) (xc_X3_digitsEnd uk hk2 e8) kX3_digitsEnd lX3_90 sX3_digitsEnd (by decide) (Nat.le_of_ble_eq_true rfl) dX3_orderOfNumbers_25 rfl ?_
  refine uu_istore dX3_orderOfNumbers_28 (by decide) rfl ?_
  refine uu_iload dX3_orderOfNumbers_30 (List.mem_of_getElem? (i := 3) rfl) ?_
  refine uu_iload dX3_orderOfNumbers_32 (List.mem_of_getElem? (i := 1) rfl) ?_
  refine uu_icmp_eq (tgt := 44) dX3_orderOfNumbers_34 (by decide) (fun c9 => ?_) (fun c9 => ?_)
  · replace h := uu_pos c9 h
    refine uu_lv [3, 2, 1, 0] (lv' := [(4, .int v1), (5, .int v3), (6, .int v5), (7, .int v7)]) rfl ?_
    exact xb_X3_orderOfNumbers_44 uk  h
  · replace h := uu_neg c9 h
    refine uu_iload dX3_orderOfNumbers_37 (List.mem_of_getElem? (i := 2) rfl) ?_
    refine uu_iload dX3_orderOfNumbers_39 (List.mem_of_getElem? (i := 0) rfl) ?_
    refine uu_icmp_ne (tgt := 70) dX3_orderOfNumbers_41 (by decide) (fun c10 => ?_) (fun c10 => ?_)
    · replace h := uu_neg c10 h
      refine uu_lv [4, 6, 3, 2, 1, 0] (lv' := [(0, .ref (B + k0)), (2, .ref (B + k2)), (4, .int v1), (5, .int v3), (6, .int v5), (7, .int v7)]) rfl ?_
      exact xn_X3_orderOfNumbers_70 uk  _ _ _ _ _ _ _ hk0 hk2 _ _ h
    · replace h := uu_pos c10 h
      refine uu_lv [3, 2, 1, 0] (lv' := [(4, .int v1), (5, .int v3), (6, .int v5), (7, .int v7)]) rfl ?_
      exact xb_X3_orderOfNumbers_44 uk  h
