abbrev mX12_answered : hM := (yX12_answered, cX12_answered, 4, (some (.boolean)))
theorem dX12_answered_45 : decode cX12_answered 45 = .ok (.iload_n 3, 1) := by decide +kernel
theorem dX12_answered_46 : decode cX12_answered 46 = .ok (.aload_n 0, 1) := by decide +kernel
theorem dX12_answered_47 : decode cX12_answered 47 = .ok (.getfield 857, 3) := by decide +kernel
theorem dX12_answered_50 : decode cX12_answered 50 = .ok (.aload_n 0, 1) := by decide +kernel
theorem dX12_answered_51 : decode cX12_answered 51 = .ok (.getfield 799, 3) := by decide +kernel
theorem dX12_answered_54 : decode cX12_answered 54 = .ok (.iaload, 1) := by decide +kernel
theorem dX12_answered_55 : decode cX12_answered 55 = .ok (.if_icmp .ge 58, 3) := by decide +kernel
theorem dX12_answered_113 : decode cX12_answered 113 = .ok (.iload_n 2, 1) := by decide +kernel
theorem dX12_answered_114 : decode cX12_answered 114 = .ok (.ireturn, 1) := by decide +kernel
theorem dX12_answered_58 : decode cX12_answered 58 = .ok (.iload_n 2, 1) := by decide +kernel
theorem dX12_answered_59 : decode cX12_answered 59 = .ok (.ifCond .ne 42, 3) := by decide +kernel
theorem dX12_answered_101 : decode cX12_answered 101 = .ok (.iconst 1, 1) := by decide +kernel
theorem dX12_answered_102 : decode cX12_answered 102 = .ok (.goto 4, 3) := by decide +kernel
theorem dX12_answered_106 : decode cX12_answered 106 = .ok (.istore_n 2, 1) := by decide +kernel
theorem dX12_answered_107 : decode cX12_answered 107 = .ok (.iinc 3 1, 3) := by decide +kernel
theorem dX12_answered_110 : decode cX12_answered 110 = .ok (.goto (-65), 3) := by decide +kernel
theorem dX12_answered_62 : decode cX12_answered 62 = .ok (.aload_n 0, 1) := by decide +kernel
theorem dX12_answered_63 : decode cX12_answered 63 = .ok (.bipush 40, 2) := by decide +kernel
theorem dX12_answered_65 : decode cX12_answered 65 = .ok (.aload_n 0, 1) := by decide +kernel
theorem dX12_answered_66 : decode cX12_answered 66 = .ok (.getfield 799, 3) := by decide +kernel
theorem dX12_answered_69 : decode cX12_answered 69 = .ok (.imul, 1) := by decide +kernel
theorem dX12_answered_70 : decode cX12_answered 70 = .ok (.iload_n 3, 1) := by decide +kernel
theorem dX12_answered_71 : decode cX12_answered 71 = .ok (.iadd, 1) := by decide +kernel
theorem kX12_isNote : h_ml mX12_isNote 1 := ⟨h_t10 87 rfl rfl, h_t1 16 rfl rfl, ⟨by decide, by decide, by decide +kernel⟩, by decide⟩
theorem lX12_860 : Cond.methodLink RX12 860 mX12_isNote.1 ∈ lw_g := h_t10 84 rfl rfl
theorem sX12_isNote : Cond.instanceMethod mX12_isNote.1 ∈ lw_g ∧ Cond.selects mX12_isNote.1.cls mX12_isNote.1 mX12_isNote.1 ∈ lw_g := ⟨h_t10 86 rfl rfl, h_ins 216 rfl⟩
theorem dX12_answered_72 : decode cX12_answered 72 = .ok (.invokevirtual 860, 3) := by decide +kernel
theorem dX12_answered_75 : decode cX12_answered 75 = .ok (.ifCond .eq 30, 3) := by decide +kernel
theorem dX12_answered_105 : decode cX12_answered 105 = .ok (.iconst 0, 1) := by decide +kernel
theorem dX12_answered_78 : decode cX12_answered 78 = .ok (.aload_n 0, 1) := by decide +kernel
theorem dX12_answered_79 : decode cX12_answered 79 = .ok (.getfield 863, 3) := by decide +kernel
theorem dX12_answered_82 : decode cX12_answered 82 = .ok (.aload_n 0, 1) := by decide +kernel
theorem dX12_answered_83 : decode cX12_answered 83 = .ok (.getfield 866, 3) := by decide +kernel
theorem dX12_answered_86 : decode cX12_answered 86 = .ok (.bipush 40, 2) := by decide +kernel
theorem dX12_answered_88 : decode cX12_answered 88 = .ok (.aload_n 0, 1) := by decide +kernel
theorem dX12_answered_89 : decode cX12_answered 89 = .ok (.getfield 799, 3) := by decide +kernel
theorem dX12_answered_92 : decode cX12_answered 92 = .ok (.imul, 1) := by decide +kernel
theorem dX12_answered_93 : decode cX12_answered 93 = .ok (.iload_n 3, 1) := by decide +kernel
theorem dX12_answered_94 : decode cX12_answered 94 = .ok (.iadd, 1) := by decide +kernel
theorem dX12_answered_95 : decode cX12_answered 95 = .ok (.iaload, 1) := by decide +kernel
theorem dX12_answered_96 : decode cX12_answered 96 = .ok (.iload_n 1, 1) := by decide +kernel
theorem dX12_answered_97 : decode cX12_answered 97 = .ok (.iadd, 1) := by decide +kernel
theorem dX12_answered_98 : decode cX12_answered 98 = .ok (.if_icmp .ge 7, 3) := by decide +kernel
theorem dX12_answered_0 : decode cX12_answered 0 = .ok (.aload_n 0, 1) := by decide +kernel
theorem dX12_answered_1 : decode cX12_answered 1 = .ok (.getfield 322, 3) := by decide +kernel
theorem dX12_answered_4 : decode cX12_answered 4 = .ok (.aload_n 0, 1) := by decide +kernel
theorem dX12_answered_5 : decode cX12_answered 5 = .ok (.getfield 761, 3) := by decide +kernel
theorem dX12_answered_8 : decode cX12_answered 8 = .ok (.iaload, 1) := by decide +kernel
theorem dX12_answered_9 : decode cX12_answered 9 = .ok (.istore_n 1, 1) := by decide +kernel
theorem dX12_answered_10 : decode cX12_answered 10 = .ok (.iload_n 1, 1) := by decide +kernel
theorem dX12_answered_11 : decode cX12_answered 11 = .ok (.ifCond .ge 8, 3) := by decide +kernel
theorem dX12_answered_19 : decode cX12_answered 19 = .ok (.iload_n 1, 1) := by decide +kernel
theorem dX12_answered_20 : decode cX12_answered 20 = .ok (.iconst 1, 1) := by decide +kernel
theorem dX12_answered_21 : decode cX12_answered 21 = .ok (.if_icmp .ge 7, 3) := by decide +kernel
theorem dX12_answered_28 : decode cX12_answered 28 = .ok (.iload_n 1, 1) := by decide +kernel
theorem dX12_answered_29 : decode cX12_answered 29 = .ok (.bipush 30, 2) := by decide +kernel
theorem dX12_answered_31 : decode cX12_answered 31 = .ok (.if_icmp .le 8, 3) := by decide +kernel
theorem dX12_answered_39 : decode cX12_answered 39 = .ok (.iload_n 1, 1) := by decide +kernel
theorem dX12_answered_40 : decode cX12_answered 40 = .ok (.istore_n 1, 1) := by decide +kernel
theorem dX12_answered_41 : decode cX12_answered 41 = .ok (.iconst 0, 1) := by decide +kernel
theorem dX12_answered_42 : decode cX12_answered 42 = .ok (.istore_n 2, 1) := by decide +kernel
theorem dX12_answered_43 : decode cX12_answered 43 = .ok (.iconst 0, 1) := by decide +kernel
theorem dX12_answered_44 : decode cX12_answered 44 = .ok (.istore_n 3, 1) := by decide +kernel
theorem dX12_answered_34 : decode cX12_answered 34 = .ok (.bipush 30, 2) := by decide +kernel
theorem dX12_answered_36 : decode cX12_answered 36 = .ok (.goto 4, 3) := by decide +kernel
theorem dX12_answered_24 : decode cX12_answered 24 = .ok (.iconst 1, 1) := by decide +kernel
theorem dX12_answered_25 : decode cX12_answered 25 = .ok (.goto 15, 3) := by decide +kernel
theorem dX12_answered_14 : decode cX12_answered 14 = .ok (.bipush 7, 2) := by decide +kernel
theorem dX12_answered_16 : decode cX12_answered 16 = .ok (.goto 24, 3) := by decide +kernel
def fb_X12_answered_45 (K45 : Int32 → Bool → Int32 → uS → Option Bool) (x1 : Int32) (b2 : Bool) (x3 : Int32) (s : uS) : Option Bool := (iget 20 s 1129 (s.I 1079 89)).bind fun v1 => if v1 ≤ x3 then (some b2) else (if b2 = true then (K45 x1 true (x3 + 1) s) else ((fn_X12_isNote (((40 : Int32) * (s.I 1079 89)) + x3) s).bind fun v5 => if v5 = true then ((iget 20 s 1130 (((40 : Int32) * (s.I 1079 89)) + x3)).bind fun v8 => if (v8 + x1) ≤ (s.I 1079 1) then (K45 x1 false (x3 + 1) s) else (K45 x1 true (x3 + 1) s)) else (K45 x1 false (x3 + 1) s)))
set_option maxRecDepth 100000 in
set_option maxHeartbeats 4000000 in
theorem xb_X12_answered_45 {l : Launch} {D : va_G} {A : Nat → ClassId} {B : Nat} {Z : State → Heap → Prop} {vF : Value} (uk : uK B Z vF) {K45 : Int32 → Bool → Int32 → uS → Option Bool} (hK45 : ∀ (x1 : Int32) (b2 : Bool) (x3 : Int32)  (s : uS) (r : Bool), K45 x1 b2 x3 s = some r → GU l D A B Z mX12_answered 2 (s, some (.int (bI r))) s 45 [(0, .ref (B + 1079)), (1, .int x1), (2, .int (bI b2)), (3, .int x3)] []) {x1 : Int32} {b2 : Bool} {x3 : Int32} {s : uS} {r : Bool}  (h : fb_X12_answered_45 K45 x1 b2 x3 s = some r) : GU l D A B Z mX12_answered 2 (s, some (.int (bI r))) s 45 [(0, .ref (B + 1079)), (1, .int x1), (2, .int (bI b2)), (3, .int x3)] [] := by
  unfold fb_X12_answered_45 at h
  refine uu_iload_n dX12_answered_45 rfl (List.mem_of_getElem? (i := 3) rfl) ?_
  refine uu_aload_n dX12_answered_46 rfl (List.mem_of_getElem? (i := 0) rfl) ?_
  refine uu_geta (ci := 12) (N := 153) fX12_857 (by decide) so_1079.is (by decide) (c := 1129) (by decide) dX12_answered_47 ?_
  refine uu_aload_n dX12_answered_50 rfl (List.mem_of_getElem? (i := 0) rfl) ?_
  refine uu_geti (ci := 12) (N := 153) fX12_799 (by decide) so_1079.is (by decide) (by decide) dX12_answered_51 ?_
  obtain ⟨v1, e2, h⟩ := uu_ob h
  refine uu_iald e2 dX12_answered_54 ?_
  refine uu_icmp_ge (tgt := 113) dX12_answered_55 (by decide) (fun c3 => ?_) (fun c3 => ?_)
  · replace h := uu_pos c3 h
    refine uu_iload_n dX12_answered_113 rfl (List.mem_of_getElem? (i := 2) rfl) ?_
    have hr := Option.some.inj h
    subst hr
    exact uu_zret (x := bI b2) rfl (bI_z _) dX12_answered_114
  · replace h := uu_neg c3 h
    refine uu_iload_n dX12_answered_58 rfl (List.mem_of_getElem? (i := 2) rfl) ?_
    refine uu_ifb_ne (tgt := 101) dX12_answered_59 (by decide) (fun c4 => ?_) (fun c4 => ?_)
    · replace h := uu_pos c4 h
      refine uu_iconst (v := 1) dX12_answered_101 (by decide) ?_
      refine uu_goto (tgt := 106) dX12_answered_102 (by decide) ?_
      refine uu_istore_n dX12_answered_106 rfl (by decide) rfl ?_
      refine uu_iinc (v := x3 + 1) dX12_answered_107 (k := 3) rfl rfl (by decide) rfl ?_
      refine uu_goto (tgt := 45) dX12_answered_110 (by decide) ?_
      refine uu_lv [2, 3, 1, 0] (lv' := [(0, .ref (B + 1079)), (1, .int x1), (2, .int 1), (3, .int (x3 + 1))]) rfl ?_
      exact hK45 x1 true (x3 + 1) _ _ h
    · replace h := uu_neg c4 h
      refine uu_aload_n dX12_answered_62 rfl (List.mem_of_getElem? (i := 0) rfl) ?_
      refine uu_bipush (v := 40) dX12_answered_63 (by decide) ?_
      refine uu_aload_n dX12_answered_65 rfl (List.mem_of_getElem? (i := 0) rfl) ?_
      refine uu_geti (ci := 12) (N := 153) fX12_799 (by decide) so_1079.is (by decide) (by decide) dX12_answered_66 ?_
      refine uu_imul dX12_answered_69 ?_
      refine uu_iload_n dX12_answered_70 rfl (List.mem_of_getElem? (i := 3) rfl) ?_
      refine uu_iadd dX12_answered_71 ?_
      obtain ⟨v5, e6, h⟩ := uu_ob h
      refine uu_cv (d1 := 1) (k := 1079) (ci := 12) (T := TX12) (N := 153) (As := [.int (((40 : Int32) * (s.I 1079 89)) + x3)]) (st := []) (st' := [.int (bI v5)]) (xc_X12_isNote uk  e6) so_1079.is (by decide) rfl kX12_isNote lX12_860 sX12_isNote (by decide) (Nat.le_of_ble_eq_true rfl) dX12_answered_72 rfl ?_
      refine uu_ifb_eq (tgt := 105) dX12_answered_75 (by decide) (fun c7 => ?_) (fun c7 => ?_)
      · replace h := uu_neg c7 h
        refine uu_iconst (v := 0) dX12_answered_105 (by decide) ?_
        refine uu_istore_n dX12_answered_106 rfl (by decide) rfl ?_
        refine uu_iinc (v := x3 + 1) dX12_answered_107 (k := 3) rfl rfl (by decide) rfl ?_
        refine uu_goto (tgt := 45) dX12_answered_110 (by decide) ?_
        refine uu_lv [2, 3, 1, 0] (lv' := [(0, .ref (B + 1079)), (1, .int x1), (2, .int 0), (3, .int (x3 + 1))]) rfl ?_
        exact hK45 x1 false (x3 + 1) _ _ h
      · replace h := uu_pos c7 h
        refine uu_aload_n dX12_answered_78 rfl (List.mem_of_getElem? (i := 0) rfl) ?_
        refine uu_geti (ci := 12) (N := 153) fX12_863 (by decide) so_1079.is (by decide) (by decide) dX12_answered_79 ?_
        refine uu_aload_n dX12_answered_82 rfl (List.mem_of_getElem? (i := 0) rfl) ?_
        refine uu_geta (ci := 12) (N := 153) fX12_866 (by decide) so_1079.is (by decide) (c := 1130) (by decide) dX12_answered_83 ?_
        refine uu_bipush (v := 40) dX12_answered_86 (by decide) ?_
        refine uu_aload_n dX12_answered_88 rfl (List.mem_of_getElem? (i := 0) rfl) ?_
        refine uu_geti (ci := 12) (N := 153) fX12_799 (by decide) so_1079.is (by decide) (by decide) dX12_answered_89 ?_
        refine uu_imul dX12_answered_92 ?_
        refine uu_iload_n dX12_answered_93 rfl (List.mem_of_getElem? (i := 3) rfl) ?_
        refine uu_iadd dX12_answered_94 ?_
        obtain ⟨v8, e9, h⟩ := uu_ob h
        refine uu_iald e9 dX12_answered_95 ?_
        refine uu_iload_n dX12_answered_96 rfl (List.mem_of_getElem? (i := 1) rfl) ?_
        refine uu_iadd dX12_answered_97 ?_
        refine uu_icmp_ge (tgt := 105) dX12_answered_98 (by decide) (fun c10 => ?_) (fun c10 => ?_)
        · replace h := uu_pos c10 h
          refine uu_iconst (v := 0) dX12_answered_105 (by decide) ?_
          refine uu_istore_n dX12_answered_106 rfl (by decide) rfl ?_
          refine uu_iinc (v := x3 + 1) dX12_answered_107 (k := 3) rfl rfl (by decide) rfl ?_
          refine uu_goto (tgt := 45) dX12_answered_110 (by decide) ?_
          refine uu_lv [2, 3, 1, 0] (lv' := [(0, .ref (B + 1079)), (1, .int x1), (2, .int 0), (3, .int (x3 + 1))]) rfl ?_
          exact hK45 x1 false (x3 + 1) _ _ h
        · replace h := uu_neg c10 h
          refine uu_iconst (v := 1) dX12_answered_101 (by decide) ?_
          refine uu_goto (tgt := 106) dX12_answered_102 (by decide) ?_
          refine uu_istore_n dX12_answered_106 rfl (by decide) rfl ?_
          refine uu_iinc (v := x3 + 1) dX12_answered_107 (k := 3) rfl rfl (by decide) rfl ?_
          refine uu_goto (tgt := 45) dX12_answered_110 (by decide) ?_
          refine uu_lv [2, 3, 1, 0] (lv' := [(0, .ref (B + 1079)), (1, .int x1), (2, .int 1), (3, .int (x3 + 1))]) rfl ?_
          exact hK45 x1 true (x3 + 1) _ _ h
def fn_X12_answered_45  : Nat → Int32 → Bool → Int32 → uS → Option Bool
  | 0 => fun _ _ _ _ => none
  | n + 1 => fb_X12_answered_45 (fn_X12_answered_45  n)
set_option maxRecDepth 100000 in
set_option maxHeartbeats 4000000 in
theorem xn_X12_answered_45 {l : Launch} {D : va_G} {A : Nat → ClassId} {B : Nat} {Z : State → Heap → Prop} {vF : Value} (uk : uK B Z vF)   : ∀ (n : Nat) (x1 : Int32) (b2 : Bool) (x3 : Int32)  (s : uS) (r : Bool), fn_X12_answered_45  n x1 b2 x3 s = some r → GU l D A B Z mX12_answered 2 (s, some (.int (bI r))) s 45 [(0, .ref (B + 1079)), (1, .int x1), (2, .int (bI b2)), (3, .int x3)] [] := by
  intro n
  induction n with
  | zero => intro x1 b2 x3 s r h
            cases h
  | succ n ih => intro x1 b2 x3 s r h
                 exact xb_X12_answered_45 uk ih  h
def fn_X12_answered  (s : uS) : Option Bool := (iget 20 s 1113 (s.I 1079 105)).bind fun v1 => if 0 ≤ v1 then (if (1 : Int32) ≤ v1 then (if v1 ≤ 30 then (fn_X12_answered_45 uFu v1 false 0 s) else (fn_X12_answered_45 uFu 30 false 0 s)) else (fn_X12_answered_45 uFu 1 false 0 s)) else (fn_X12_answered_45 uFu 7 false 0 s)
set_option maxRecDepth 100000 in
set_option maxHeartbeats 4000000 in
theorem xc_X12_answered {l : Launch} {D : va_G} {A : Nat → ClassId} {B : Nat} {Z : State → Heap → Prop} {vF : Value} (uk : uK B Z vF)  {s : uS} {r : Bool}  (h : fn_X12_answered  s = some r) : CU l D A B Z 2 mX12_answered s [.ref (B + 1079)] (s, some (.int (bI r))) := by
  unfold fn_X12_answered at h
  refine cu_of rfl uk.1.1 (Nat.le_of_ble_eq_true rfl) ?_
  show GU _ _ _ _ _ _ _ _ _ 0 [(0, .ref (B + 1079))] []
  refine uu_aload_n dX12_answered_0 rfl (List.mem_of_getElem? (i := 0) rfl) ?_
  refine uu_geta (ci := 12) (N := 153) fX12_322 (by decide) so_1079.is (by decide) (c := 1113) (by decide) dX12_answered_1 ?_
  refine uu_aload_n dX12_answered_4 rfl (List.mem_of_getElem? (i := 0) rfl) ?_
  refine uu_geti (ci := 12) (N := 153) fX12_761 (by decide) so_1079.is (by decide) (by decide) dX12_answered_5 ?_
  obtain ⟨v1, e2, h⟩ := uu_ob h
  refine uu_iald e2 dX12_answered_8 ?_
  refine uu_istore_n dX12_answered_9 rfl (by decide) rfl ?_
  refine uu_iload_n dX12_answered_10 rfl (List.mem_of_getElem? (i := 0) rfl) ?_
  refine uu_if_ge (tgt := 19) dX12_answered_11 (by decide) (fun c3 => ?_) (fun c3 => ?_)
  · replace h := uu_pos c3 h
    refine uu_iload_n dX12_answered_19 rfl (List.mem_of_getElem? (i := 0) rfl) ?_
    refine uu_iconst (v := 1) dX12_answered_20 (by decide) ?_
    refine uu_icmp_ge (tgt := 28) dX12_answered_21 (by decide) (fun c4 => ?_) (fun c4 => ?_)
    · replace h := uu_pos c4 h
      refine uu_iload_n dX12_answered_28 rfl (List.mem_of_getElem? (i := 0) rfl) ?_
      refine uu_bipush (v := 30) dX12_answered_29 (by decide) ?_
      refine uu_icmp_le (tgt := 39) dX12_answered_31 (by decide) (fun c5 => ?_) (fun c5 => ?_)
      · replace h := uu_pos c5 h
        refine uu_iload_n dX12_answered_39 rfl (List.mem_of_getElem? (i := 0) rfl) ?_
        refine uu_istore_n dX12_answered_40 rfl (by decide) rfl ?_
        refine uu_iconst (v := 0) dX12_answered_41 (by decide) ?_
        refine uu_istore_n dX12_answered_42 rfl (by decide) rfl ?_
        refine uu_iconst (v := 0) dX12_answered_43 (by decide) ?_
        refine uu_istore_n dX12_answered_44 rfl (by decide) rfl ?_
        refine uu_lv [3, 2, 1, 0] (lv' := [(0, .ref (B + 1079)), (1, .int v1), (2, .int 0), (3, .int 0)]) rfl ?_
        exact xn_X12_answered_45 uk  _ _ _ _ _ _ h
      · replace h := uu_neg c5 h
        refine uu_bipush (v := 30) dX12_answered_34 (by decide) ?_
        refine uu_goto (tgt := 40) dX12_answered_36 (by decide) ?_
        refine uu_istore_n dX12_answered_40 rfl (by decide) rfl ?_
        refine uu_iconst (v := 0) dX12_answered_41 (by decide) ?_
        refine uu_istore_n dX12_answered_42 rfl (by decide) rfl ?_
        refine uu_iconst (v := 0) dX12_answered_43 (by decide) ?_
        refine uu_istore_n dX12_answered_44 rfl (by decide) rfl ?_
        refine uu_lv [3, 2, 1, 0] (lv' := [(0, .ref (B + 1079)), (1, .int 30), (2, .int 0), (3, .int 0)]) rfl ?_
        exact xn_X12_answered_45 uk  _ _ _ _ _ _ h
    · replace h := uu_neg c4 h
      refine uu_iconst (v := 1) dX12_answered_24 (by decide) ?_
      refine uu_goto (tgt := 40) dX12_answered_25 (by decide) ?_
      refine uu_istore_n dX12_answered_40 rfl (by decide) rfl ?_
      refine uu_iconst (v := 0) dX12_answered_41 (by decide) ?_
      refine uu_istore_n dX12_answered_42 rfl (by decide) rfl ?_
      refine uu_iconst (v := 0) dX12_answered_43 (by decide) ?_
      refine uu_istore_n dX12_answered_44 rfl (by decide) rfl ?_
      refine uu_lv [3, 2, 1, 0] (lv' := [(0, .ref (B + 1079)), (1, .int 1), (2, .int 0), (3, .int 0)]) rfl ?_
      exact xn_X12_answered_45 uk  _ _ _ _ _ _ h
  · replace h := uu_neg c3 h
    refine uu_bipush (v := 7) dX12_answered_14 (by decide) ?_
    refine uu_goto (tgt := 40) dX12_answered_16 (by decide) ?_
    refine uu_istore_n dX12_answered_40 rfl (by decide) rfl ?_
    refine uu_iconst (v := 0) dX12_answered_41 (by decide) ?_
    refine uu_istore_n dX12_answered_42 rfl (by decide) rfl ?_
    refine uu_iconst (v := 0) dX12_answered_43 (by decide) ?_
    refine uu_istore_n dX12_answered_44 rfl (by decide) rfl ?_
    refine uu_lv [3, 2, 1, 0] (lv' := [(0, .ref (B + 1079)), (1, .int 7), (2, .int 0), (3, .int 0)]) rfl ?_
    exact xn_X12_answered_45 uk  _ _ _ _ _ _ h
abbrev mX12_answers : hM := (yX12_answers, cX12_answers, 1, (some (.boolean)))
theorem dX12_answers_0 : decode cX12_answers 0 = .ok (.aload_n 0, 1) := by decide +kernel
theorem fX12_758 : h_fl RX12 758 12 104 RX12 TX12 153 := ⟨rfl, by decide, inX12, h_t12 65 rfl rfl⟩
theorem dX12_answers_1 : decode cX12_answers 1 = .ok (.getfield 758, 3) := by decide +kernel
theorem dX12_answers_4 : decode cX12_answers 4 = .ok (.ifCond .le 72, 3) := by decide +kernel
theorem dX12_answers_76 : decode cX12_answers 76 = .ok (.iconst 0, 1) := by decide +kernel
theorem dX12_answers_77 : decode cX12_answers 77 = .ok (.ireturn, 1) := by decide +kernel
theorem dX12_answers_7 : decode cX12_answers 7 = .ok (.aload_n 0, 1) := by decide +kernel
theorem dX12_answers_8 : decode cX12_answers 8 = .ok (.getfield 678, 3) := by decide +kernel
theorem dX12_answers_11 : decode cX12_answers 11 = .ok (.ifCond .le 65, 3) := by decide +kernel
theorem dX12_answers_14 : decode cX12_answers 14 = .ok (.aload_n 0, 1) := by decide +kernel
theorem kX12_isNobody : h_ml mX12_isNobody 0 := ⟨h_t10 39 rfl rfl, h_t1 16 rfl rfl, ⟨by decide, by decide, by decide +kernel⟩, by decide⟩
theorem lX12_869 : Cond.methodLink RX12 869 mX12_isNobody.1 ∈ lw_g := h_t10 36 rfl rfl
theorem sX12_isNobody : Cond.instanceMethod mX12_isNobody.1 ∈ lw_g ∧ Cond.selects mX12_isNobody.1.cls mX12_isNobody.1 mX12_isNobody.1 ∈ lw_g := ⟨h_t10 38 rfl rfl, h_ins 207 rfl⟩
theorem dX12_answers_15 : decode cX12_answers 15 = .ok (.invokevirtual 869, 3) := by decide +kernel
theorem dX12_answers_18 : decode cX12_answers 18 = .ok (.ifCond .ne 58, 3) := by decide +kernel
theorem dX12_answers_21 : decode cX12_answers 21 = .ok (.aload_n 0, 1) := by decide +kernel
theorem dX12_answers_22 : decode cX12_answers 22 = .ok (.ldc_w 872, 3) := by decide +kernel
theorem kX12_hasField : h_ml mX12_hasField 1 := ⟨h_t10 57 rfl rfl, h_t1 16 rfl rfl, ⟨by decide, by decide, by decide +kernel⟩, by decide⟩
theorem lX12_874 : Cond.methodLink RX12 874 mX12_hasField.1 ∈ lw_g := h_t10 54 rfl rfl
theorem sX12_hasField : Cond.instanceMethod mX12_hasField.1 ∈ lw_g ∧ Cond.selects mX12_hasField.1.cls mX12_hasField.1 mX12_hasField.1 ∈ lw_g := ⟨h_t10 56 rfl rfl, h_ins 210 rfl⟩
theorem dX12_answers_25 : decode cX12_answers 25 = .ok (.invokevirtual 874, 3) := by decide +kernel
theorem dX12_answers_28 : decode cX12_answers 28 = .ok (.ifCond .ne 48, 3) := by decide +kernel
theorem dX12_answers_31 : decode cX12_answers 31 = .ok (.aload_n 0, 1) := by decide +kernel
theorem dX12_answers_32 : decode cX12_answers 32 = .ok (.ldc_w 877, 3) := by decide +kernel
theorem dX12_answers_35 : decode cX12_answers 35 = .ok (.invokevirtual 874, 3) := by decide +kernel
theorem dX12_answers_38 : decode cX12_answers 38 = .ok (.ifCond .ne 38, 3) := by decide +kernel
theorem dX12_answers_41 : decode cX12_answers 41 = .ok (.aload_n 0, 1) := by decide +kernel
theorem dX12_answers_42 : decode cX12_answers 42 = .ok (.ldc_w 879, 3) := by decide +kernel
theorem dX12_answers_45 : decode cX12_answers 45 = .ok (.invokevirtual 874, 3) := by decide +kernel
theorem dX12_answers_48 : decode cX12_answers 48 = .ok (.ifCond .ne 28, 3) := by decide +kernel
theorem dX12_answers_51 : decode cX12_answers 51 = .ok (.aload_n 0, 1) := by decide +kernel
theorem kX12_isAutomatic : h_ml mX12_isAutomatic 0 := ⟨h_t10 67 rfl rfl, h_t1 16 rfl rfl, ⟨by decide, by decide, by decide +kernel⟩, by decide⟩
theorem lX12_881 : Cond.methodLink RX12 881 mX12_isAutomatic.1 ∈ lw_g := h_t10 64 rfl rfl
theorem sX12_isAutomatic : Cond.instanceMethod mX12_isAutomatic.1 ∈ lw_g ∧ Cond.selects mX12_isAutomatic.1.cls mX12_isAutomatic.1 mX12_isAutomatic.1 ∈ lw_g := ⟨h_t10 66 rfl rfl, h_ins 212 rfl⟩
theorem dX12_answers_52 : decode cX12_answers 52 = .ok (.invokevirtual 881, 3) := by decide +kernel
theorem dX12_answers_55 : decode cX12_answers 55 = .ok (.ifCond .ne 21, 3) := by decide +kernel
theorem dX12_answers_58 : decode cX12_answers 58 = .ok (.aload_n 0, 1) := by decide +kernel
theorem kX12_isForMe : h_ml mX12_isForMe 0 := ⟨h_t10 73 rfl rfl, h_t1 16 rfl rfl, ⟨by decide, by decide, by decide +kernel⟩, by decide⟩
theorem lX12_884 : Cond.methodLink RX12 884 mX12_isForMe.1 ∈ lw_g := h_t10 70 rfl rfl
theorem sX12_isForMe : Cond.instanceMethod mX12_isForMe.1 ∈ lw_g ∧ Cond.selects mX12_isForMe.1.cls mX12_isForMe.1 mX12_isForMe.1 ∈ lw_g := ⟨h_t10 72 rfl rfl, h_ins 213 rfl⟩
theorem dX12_answers_59 : decode cX12_answers 59 = .ok (.invokevirtual 884, 3) := by decide +kernel
theorem dX12_answers_62 : decode cX12_answers 62 = .ok (.ifCond .eq 14, 3) := by decide +kernel
theorem dX12_answers_65 : decode cX12_answers 65 = .ok (.aload_n 0, 1) := by decide +kernel
theorem kX12_answered : h_ml mX12_answered 0 := ⟨h_t10 83 rfl rfl, h_t1 16 rfl rfl, ⟨by decide, by decide, by decide +kernel⟩, by decide⟩
theorem lX12_887 : Cond.methodLink RX12 887 mX12_answered.1 ∈ lw_g := h_t10 80 rfl rfl
theorem sX12_answered : Cond.instanceMethod mX12_answered.1 ∈ lw_g ∧ Cond.selects mX12_answered.1.cls mX12_answered.1 mX12_answered.1 ∈ lw_g := ⟨h_t10 82 rfl rfl, h_ins 215 rfl⟩
theorem dX12_answers_66 : decode cX12_answers 66 = .ok (.invokevirtual 887, 3) := by decide +kernel
theorem dX12_answers_69 : decode cX12_answers 69 = .ok (.ifCond .ne 7, 3) := by decide +kernel
theorem dX12_answers_72 : decode cX12_answers 72 = .ok (.iconst 1, 1) := by decide +kernel
theorem dX12_answers_73 : decode cX12_answers 73 = .ok (.goto 4, 3) := by decide +kernel
def fn_X12_answers  (s : uS) : Option (uS × Bool) := if (s.I 1079 104) ≤ 0 then (some (s, false)) else (if (s.I 1079 93) ≤ 0 then (some (s, false)) else ((fn_X12_isNobody s).bind fun r3 => if r3.2 = true then (some (r3.1, false)) else ((fn_X12_hasField kW_152 r3.1).bind fun r7 => if r7.2 = true then (some (r7.1, false)) else ((fn_X12_hasField kW_153 r7.1).bind fun r11 => if r11.2 = true then (some (r11.1, false)) else ((fn_X12_hasField kW_154 r11.1).bind fun r15 => if r15.2 = true then (some (r15.1, false)) else ((fn_X12_isAutomatic r15.1).bind fun r18 => if r18.2 = true then (some (r18.1, false)) else ((fn_X12_isForMe r18.1).bind fun r21 => if r21.2 = true then ((fn_X12_answered r21.1).bind fun v24 => if v24 = true then (some (r21.1, false)) else (some (r21.1, true))) else (some (r21.1, false)))))))))
set_option maxRecDepth 100000 in
set_option maxHeartbeats 4000000 in
theorem xc_X12_answers {l : Launch} {D : va_G} {A : Nat → ClassId} {B : Nat} {Z : State → Heap → Prop} {vF : Value} (uk : uK B Z vF)  {s : uS} {r : (uS × Bool)}  (h : fn_X12_answers  s = some r) : CU l D A B Z 7 mX12_answers s [.ref (B + 1079)] (r.1, some (.int (bI r.2))) := by
  unfold fn_X12_answers at h
  refine cu_of rfl uk.1.1 (Nat.le_of_ble_eq_true rfl) ?_
  show GU _ _ _ _ _ _ _ _ _ 0 [(0, .ref (B + 1079))] []
  refine uu_aload_n dX12_answers_0 rfl (List.mem_of_getElem? (i := 0) rfl) ?_
  refine uu_geti (ci := 12) (N := 153) fX12_758 (by decide) so_1079.is (by decide) (by decide) dX12_answers_1 ?_
  refine uu_if_le (tgt := 76) dX12_answers_4 (by decide) (fun c1 => ?_) (fun c1 => ?_)
  · replace h := uu_pos c1 h
    refine uu_iconst (v := 0) dX12_answers_76 (by decide) ?_
    have hr := Option.some.inj h
    subst hr
    exact uu_zret (x := bI false) rfl (bI_z _) dX12_answers_77
  · replace h := uu_neg c1 h
    refine uu_aload_n dX12_answers_7 rfl (List.mem_of_getElem? (i := 0) rfl) ?_
    refine uu_geti (ci := 12) (N := 153) fX12_678 (by decide) so_1079.is (by decide) (by decide) dX12_answers_8 ?_
    refine uu_if_le (tgt := 76) dX12_answers_11 (by decide) (fun c2 => ?_) (fun c2 => ?_)
    · replace h := uu_pos c2 h
      refine uu_iconst (v := 0) dX12_answers_76 (by decide) ?_
      have hr := Option.some.inj h
      subst hr
      exact uu_zret (x := bI false) rfl (bI_z _) dX12_answers_77
    · replace h := uu_neg c2 h
      refine uu_aload_n dX12_answers_14 rfl (List.mem_of_getElem? (i := 0) rfl) ?_
      obtain ⟨r3, e4, h⟩ := uu_ob h
      refine uu_cv (d1 := 5) (k := 1079) (ci := 12) (T := TX12) (N := 153) (As := []) (st := []) (st' := [.int (bI r3.2)]) (xc_X12_isNobody uk  e4) so_1079.is (by decide) rfl kX12_isNobody lX12_869 sX12_isNobody (by decide) (Nat.le_of_ble_eq_true rfl) dX12_answers_15 rfl ?_
      refine uu_ifb_ne (tgt := 76) dX12_answers_18 (by decide) (fun c5 => ?_) (fun c5 => ?_)
      · replace h := uu_pos c5 h
        refine uu_iconst (v := 0) dX12_answers_76 (by decide) ?_
        have hr := Option.some.inj h
        subst hr
        exact uu_zret (x := bI false) rfl (bI_z _) dX12_answers_77
      · replace h := uu_neg c5 h
        refine uu_aload_n dX12_answers_21 rfl (List.mem_of_getElem? (i := 0) rfl) ?_
        obtain ⟨cq6, cp6, cv6, cw6⟩ := uk.2.1 152 _ rfl
        refine uu_ldcwS cv6 dX12_answers_22 ?_
        obtain ⟨r7, e8, h⟩ := uu_ob h
        refine uu_cv (d1 := 6) (k := 1079) (ci := 12) (T := TX12) (N := 153) (As := [.ref cq6]) (st := []) (st' := [.int (bI r7.2)]) (xc_X12_hasField uk cw6 e8) so_1079.is (by decide) rfl kX12_hasField lX12_874 sX12_hasField (by decide) (Nat.le_of_ble_eq_true rfl) dX12_answers_25 rfl ?_
        refine uu_ifb_ne (tgt := 76) dX12_answers_28 (by decide) (fun c9 => ?_) (fun c9 => ?_)
        · replace h := uu_pos c9 h
          refine uu_iconst (v := 0) dX12_answers_76 (by decide) ?_
          have hr := Option.some.inj h
          subst hr
          exact uu_zret (x := bI false) rfl (bI_z _) dX12_answers_77
        · replace h := uu_neg c9 h
          refine uu_aload_n dX12_answers_31 rfl (List.mem_of_getElem? (i := 0) rfl) ?_
          obtain ⟨cq10, cp10, cv10, cw10⟩ := uk.2.1 153 _ rfl
          refine uu_ldcwS cv10 dX12_answers_32 ?_
          obtain ⟨r11, e12, h⟩ := uu_ob h
          refine uu_cv (d1 := 6) (k := 1079) (ci := 12) (T := TX12) (N := 153) (As := [.ref cq10]) (st := []) (st' := [.int (bI r11.2)]) (xc_X12_hasField uk cw10 e12) so_1079.is (by decide) rfl kX12_hasField lX12_874 sX12_hasField (by decide) (Nat.le_of_ble_eq_true rfl) dX12_answers_35 rfl ?_
          refine uu_ifb_ne (tgt := 76) dX12_answers_38 (by decide) (fun c13 => ?_) (fun c13 => ?_)
          · replace h := uu_pos c13 h
            refine uu_iconst (v := 0) dX12_answers_76 (by decide) ?_
            have hr := Option.some.inj h
            subst hr
            exact uu_zret (x := bI false) rfl (bI_z _) dX12_answers_77
          · replace h := uu_neg c13 h
            refine uu_aload_n dX12_answers_41 rfl (List.mem_of_getElem? (i := 0) rfl) ?_
            obtain ⟨cq14, cp14, cv14, cw14⟩ := uk.2.1 154 _ rfl
            refine uu_ldcwS cv14 dX12_answers_42 ?_
            obtain ⟨r15, e16, h⟩ := uu_ob h
            refine uu_cv (d1 := 6) (k := 1079) (ci := 12) (T := TX12) (N := 153) (As := [.ref cq14]) (st := []) (st' := [.int (bI r15.2)]) (xc_X12_hasField uk cw14 e16) so_1079.is (by decide) rfl kX12_hasField lX12_874 sX12_hasField (by decide) (Nat.le_of_ble_eq_true rfl) dX12_answers_45 rfl ?_
            refine uu_ifb_ne (tgt := 76) dX12_answers_48 (by decide) (fun c17 => ?_) (fun c17 => ?_)
            · replace h := uu_pos c17 h
              refine uu_iconst (v := 0) dX12_answers_76 (by decide) ?_
              have hr := Option.some.inj h
              subst hr
              exact uu_zret (x := bI false) rfl (bI_z _) dX12_answers_77
            · replace h := uu_neg c17 h
              refine uu_aload_n dX12_answers_51 rfl (List.mem_of_getElem? (i := 0) rfl) ?_
              obtain ⟨r18, e19, h⟩ := uu_ob h
              refine uu_cv (d1 := 6) (k := 1079) (ci := 12) (T := TX12) (N := 153) (As := []) (st := []) (st' := [.int (bI r18.2)]) (xc_X12_isAutomatic uk  e19) so_1079.is (by decide) rfl kX12_isAutomatic lX12_881 sX12_isAutomatic (by decide) (Nat.le_of_ble_eq_true rfl) dX12_answers_52 rfl ?_
              refine uu_ifb_ne (tgt := 76) dX12_answers_55 (by decide) (fun c20 => ?_) (fun c20 => ?_)
              · replace h := uu_pos c20 h
                refine uu_iconst (v := 0) dX12_answers_76 (by decide) ?_
                have hr := Option.some.inj h
                subst hr
                exact uu_zret (x := bI false) rfl (bI_z _) dX12_answers_77
              · replace h := uu_neg c20 h
                refine uu_aload_n dX12_answers_58 rfl (List.mem_of_getElem? (i := 0) rfl) ?_
                obtain ⟨r21, e22, h⟩ := uu_ob h
                refine uu_cv (d1 := 6) (k := 1079) (ci := 12) (T := TX12) (N := 153) (As := []) (st := []) (st' := [.int (bI r21.2)]) (xc_X12_isForMe uk  e22) so_1079.is (by decide) rfl kX12_isForMe lX12_884 sX12_isForMe (by decide) (Nat.le_of_ble_eq_true rfl) dX12_answers_59 rfl ?_
                refine uu_ifb_eq (tgt := 76) dX12_answers_62 (by decide) (fun c23 => ?_) (fun c23 => ?_)
                · replace h := uu_neg c23 h
                  refine uu_iconst (v := 0) dX12_answers_76 (by decide) ?_
                  have hr := Option.some.inj h
                  subst hr
                  exact uu_zret (x := bI false) rfl (bI_z _) dX12_answers_77
                · replace h := uu_pos c23 h
                  refine uu_aload_n dX12_answers_65 rfl (List.mem_of_getElem? (i := 0) rfl) ?_
                  obtain ⟨v24, e25, h⟩ := uu_ob h
                  refine uu_cv (d1 := 2) (k := 1079) (ci := 12) (T := TX12) (N := 153) (As := []) (st := []) (st' := [.int (bI v24)]) (xc_X12_answered uk  e25) so_1079.is (by decide) rfl kX12_answered lX12_887 sX12_answered (by decide) (Nat.le_of_ble_eq_true rfl) dX12_answers_66 rfl ?_
                  refine uu_ifb_ne (tgt := 76) dX12_answers_69 (by decide) (fun c26 => ?_) (fun c26 => ?_)
                  · replace h := uu_pos c26 h
                    refine uu_iconst (v := 0) dX12_answers_76 (by decide) ?_
                    have hr := Option.some.inj h
                    subst hr
                    exact uu_zret (x := bI false) rfl (bI_z _) dX12_answers_77
                  · replace h := uu_neg c26 h
                    refine uu_iconst (v := 1) dX12_answers_72 (by decide) ?_
                    refine uu_goto (tgt := 77) dX12_answers_73 (by decide) ?_
                    have hr := Option.some.inj h
                    subst hr
                    exact uu_zret (x := bI true) rfl (bI_z _) dX12_answers_77
abbrev mX12_moveNote : hM := (yX12_moveNote, cX12_moveNote, 4, none)
theorem dX12_moveNote_78 : decode cX12_moveNote 78 = .ok (.iload_n 3, 1) := by decide +kernel
theorem dX12_moveNote_79 : decode cX12_moveNote 79 = .ok (.aload_n 0, 1) := by decide +kernel
theorem dX12_moveNote_80 : decode cX12_moveNote 80 = .ok (.getfield 848, 3) := by decide +kernel
theorem dX12_moveNote_83 : decode cX12_moveNote 83 = .ok (.iload_n 1, 1) := by decide +kernel
theorem dX12_moveNote_84 : decode cX12_moveNote 84 = .ok (.iaload, 1) := by decide +kernel
theorem dX12_moveNote_85 : decode cX12_moveNote 85 = .ok (.if_icmp .ge 21, 3) := by decide +kernel
theorem dX12_moveNote_106 : decode cX12_moveNote 106 = .ok (.return_, 1) := by decide +kernel
theorem dX12_moveNote_88 : decode cX12_moveNote 88 = .ok (.aload_n 0, 1) := by decide +kernel
theorem dX12_moveNote_89 : decode cX12_moveNote 89 = .ok (.iload_n 2, 1) := by decide +kernel
theorem dX12_moveNote_90 : decode cX12_moveNote 90 = .ok (.iload_n 3, 1) := by decide +kernel
theorem dX12_moveNote_91 : decode cX12_moveNote 91 = .ok (.aload_n 0, 1) := by decide +kernel
theorem dX12_moveNote_92 : decode cX12_moveNote 92 = .ok (.iload_n 1, 1) := by decide +kernel
theorem dX12_moveNote_93 : decode cX12_moveNote 93 = .ok (.iload_n 3, 1) := by decide +kernel
theorem dX12_moveNote_94 : decode cX12_moveNote 94 = .ok (.invokevirtual 854, 3) := by decide +kernel
theorem kX12_setHandle : h_ml mX12_setHandle 3 := ⟨h_t10 171 rfl rfl, h_t1 16 rfl rfl, ⟨by decide, by decide, by decide +kernel⟩, by decide⟩
theorem lX12_890 : Cond.methodLink RX12 890 mX12_setHandle.1 ∈ lw_g := h_t10 168 rfl rfl
theorem sX12_setHandle : Cond.instanceMethod mX12_setHandle.1 ∈ lw_g ∧ Cond.selects mX12_setHandle.1.cls mX12_setHandle.1 mX12_setHandle.1 ∈ lw_g := ⟨h_t10 170 rfl rfl, h_ins 235 rfl⟩
theorem dX12_moveNote_97 : decode cX12_moveNote 97 = .ok (.invokevirtual 890, 3) := by decide +kernel
theorem dX12_moveNote_100 : decode cX12_moveNote 100 = .ok (.iinc 3 1, 3) := by decide +kernel
theorem dX12_moveNote_103 : decode cX12_moveNote 103 = .ok (.goto (-25), 3) := by decide +kernel
theorem dX12_moveNote_38 : decode cX12_moveNote 38 = .ok (.iload_n 3, 1) := by decide +kernel
theorem dX12_moveNote_39 : decode cX12_moveNote 39 = .ok (.aload_n 0, 1) := by decide +kernel
theorem dX12_moveNote_40 : decode cX12_moveNote 40 = .ok (.getfield 845, 3) := by decide +kernel
theorem dX12_moveNote_43 : decode cX12_moveNote 43 = .ok (.iload_n 1, 1) := by decide +kernel
theorem dX12_moveNote_44 : decode cX12_moveNote 44 = .ok (.iaload, 1) := by decide +kernel
theorem dX12_moveNote_45 : decode cX12_moveNote 45 = .ok (.if_icmp .ge 31, 3) := by decide +kernel
theorem dX12_moveNote_76 : decode cX12_moveNote 76 = .ok (.iconst 0, 1) := by decide +kernel
theorem dX12_moveNote_77 : decode cX12_moveNote 77 = .ok (.istore_n 3, 1) := by decide +kernel
theorem dX12_moveNote_48 : decode cX12_moveNote 48 = .ok (.aload_n 0, 1) := by decide +kernel
theorem dX12_moveNote_49 : decode cX12_moveNote 49 = .ok (.getfield 851, 3) := by decide +kernel
theorem dX12_moveNote_52 : decode cX12_moveNote 52 = .ok (.bipush 101, 2) := by decide +kernel
theorem dX12_moveNote_54 : decode cX12_moveNote 54 = .ok (.iload_n 2, 1) := by decide +kernel
theorem dX12_moveNote_55 : decode cX12_moveNote 55 = .ok (.imul, 1) := by decide +kernel
theorem dX12_moveNote_56 : decode cX12_moveNote 56 = .ok (.iload_n 3, 1) := by decide +kernel
theorem dX12_moveNote_57 : decode cX12_moveNote 57 = .ok (.iadd, 1) := by decide +kernel
theorem dX12_moveNote_58 : decode cX12_moveNote 58 = .ok (.aload_n 0, 1) := by decide +kernel
theorem dX12_moveNote_59 : decode cX12_moveNote 59 = .ok (.getfield 851, 3) := by decide +kernel
theorem dX12_moveNote_62 : decode cX12_moveNote 62 = .ok (.bipush 101, 2) := by decide +kernel
theorem dX12_moveNote_64 : decode cX12_moveNote 64 = .ok (.iload_n 1, 1) := by decide +kernel
theorem dX12_moveNote_65 : decode cX12_moveNote 65 = .ok (.imul, 1) := by decide +kernel
theorem dX12_moveNote_66 : decode cX12_moveNote 66 = .ok (.iload_n 3, 1) := by decide +kernel
theorem dX12_moveNote_67 : decode cX12_moveNote 67 = .ok (.iadd, 1) := by decide +kernel
theorem dX12_moveNote_68 : decode cX12_moveNote 68 = .ok (.iaload, 1) := by decide +kernel
theorem dX12_moveNote_69 : decode cX12_moveNote 69 = .ok (.iastore, 1) := by decide +kernel
theorem dX12_moveNote_70 : decode cX12_moveNote 70 = .ok (.iinc 3 1, 3) := by decide +kernel
theorem dX12_moveNote_73 : decode cX12_moveNote 73 = .ok (.goto (-35), 3) := by decide +kernel
theorem dX12_moveNote_0 : decode cX12_moveNote 0 = .ok (.aload_n 0, 1) := by decide +kernel
theorem dX12_moveNote_1 : decode cX12_moveNote 1 = .ok (.getfield 866, 3) := by decide +kernel
theorem dX12_moveNote_4 : decode cX12_moveNote 4 = .ok (.iload_n 2, 1) := by decide +kernel
theorem dX12_moveNote_5 : decode cX12_moveNote 5 = .ok (.aload_n 0, 1) := by decide +kernel
theorem dX12_moveNote_6 : decode cX12_moveNote 6 = .ok (.getfield 866, 3) := by decide +kernel
theorem dX12_moveNote_9 : decode cX12_moveNote 9 = .ok (.iload_n 1, 1) := by decide +kernel
theorem dX12_moveNote_10 : decode cX12_moveNote 10 = .ok (.iaload, 1) := by decide +kernel
theorem dX12_moveNote_11 : decode cX12_moveNote 11 = .ok (.iastore, 1) := by decide +kernel
theorem dX12_moveNote_12 : decode cX12_moveNote 12 = .ok (.aload_n 0, 1) := by decide +kernel
theorem dX12_moveNote_13 : decode cX12_moveNote 13 = .ok (.getfield 845, 3) := by decide +kernel
theorem dX12_moveNote_16 : decode cX12_moveNote 16 = .ok (.iload_n 2, 1) := by decide +kernel
theorem dX12_moveNote_17 : decode cX12_moveNote 17 = .ok (.aload_n 0, 1) := by decide +kernel
theorem dX12_moveNote_18 : decode cX12_moveNote 18 = .ok (.getfield 845, 3) := by decide +kernel
theorem dX12_moveNote_21 : decode cX12_moveNote 21 = .ok (.iload_n 1, 1) := by decide +kernel
theorem dX12_moveNote_22 : decode cX12_moveNote 22 = .ok (.iaload, 1) := by decide +kernel
theorem dX12_moveNote_23 : decode cX12_moveNote 23 = .ok (.iastore, 1) := by decide +kernel
theorem dX12_moveNote_24 : decode cX12_moveNote 24 = .ok (.aload_n 0, 1) := by decide +kernel
theorem dX12_moveNote_25 : decode cX12_moveNote 25 = .ok (.getfield 848, 3) := by decide +kernel
theorem dX12_moveNote_28 : decode cX12_moveNote 28 = .ok (.iload_n 2, 1) := by decide +kernel
theorem dX12_moveNote_29 : decode cX12_moveNote 29 = .ok (.aload_n 0, 1) := by decide +kernel
theorem dX12_moveNote_30 : decode cX12_moveNote 30 = .ok (.getfield 848, 3) := by decide +kernel
theorem dX12_moveNote_33 : decode cX12_moveNote 33 = .ok (.iload_n 1, 1) := by decide +kernel
theorem dX12_moveNote_34 : decode cX12_moveNote 34 = .ok (.iaload, 1) := by decide +kernel
theorem dX12_moveNote_35 : decode cX12_moveNote 35 = .ok (.iastore, 1) := by decide +kernel
theorem dX12_moveNote_36 : decode cX12_moveNote 36 = .ok (.iconst 0, 1) := by decide +kernel
theorem dX12_moveNote_37 : decode cX12_moveNote 37 = .ok (.istore_n 3, 1) := by decide +kernel
def fb_X12_moveNote_78 (K78 : Int32 → Int32 → Int32 → uS → Option uS) (x1 : Int32) (x2 : Int32) (x3 : Int32) (s : uS) : Option uS := (iget 20 s 1135 x1).bind fun v1 => if v1 ≤ x3 then (some s) else ((fn_X12_handleAt x1 x3 s).bind fun v4 => (fn_X12_setHandle x2 x3 v4 s).bind fun s6 => K78 x1 x2 (x3 + 1) s6)
set_option maxRecDepth 100000 in
set_option maxHeartbeats 4000000 in
theorem xb_X12_moveNote_78 {l : Launch} {D : va_G} {A : Nat → ClassId} {B : Nat} {Z : State → Heap → Prop} {vF : Value} (uk : uK B Z vF) {K78 : Int32 → Int32 → Int32 → uS → Option uS} (hK78 : ∀ (x1 : Int32) (x2 : Int32) (x3 : Int32)  (s : uS) (r : uS), K78 x1 x2 x3 s = some r → GU l D A B Z mX12_moveNote 1 (r, none) s 78 [(0, .ref (B + 1079)), (1, .int x1), (2, .int x2), (3, .int x3)] []) {x1 : Int32} {x2 : Int32} {x3 : Int32} {s : uS} {r : uS}  (h : fb_X12_moveNote_78 K78 x1 x2 x3 s = some r) : GU l D A B Z mX12_moveNote 1 (r, none) s 78 [(0, .ref (B + 1079)), (1, .int x1), (2, .int x2), (3, .int x3)] [] := by
  unfold fb_X12_moveNote_78 at h
  refine uu_iload_n dX12_moveNote_78 rfl (List.mem_of_getElem? (i := 3) rfl) ?_
  refine uu_aload_n dX12_moveNote_79 rfl (List.mem_of_getElem? (i := 0) rfl) ?_
  refine uu_geta (ci := 12) (N := 153) fX12_848 (by decide) so_1079.is (by decide) (c := 1135) (by decide) dX12_moveNote_80 ?_
  refine uu_iload_n dX12_moveNote_83 rfl (List.mem_of_getElem? (i := 1) rfl) ?_
  obtain ⟨v1, e2, h⟩ := uu_ob h
  refine uu_iald e2 dX12_moveNote_84 ?_
  refine uu_icmp_ge (tgt := 106) dX12_moveNote_85 (by decide) (fun c3 => ?_) (fun c3 => ?_)
  · replace h := uu_pos c3 h
    have hr := Option.some.inj h
    subst hr
    exact uu_vret rfl dX12_moveNote_106
  · replace h := uu_neg c3 h
    refine uu_aload_n dX12_moveNote_88 rfl (List.mem_of_getElem? (i := 0) rfl) ?_
    refine uu_iload_n dX12_moveNote_89 rfl (List.mem_of_getElem? (i := 2) rfl) ?_
    refine uu_iload_n dX12_moveNote_90 rfl (List.mem_of_getElem? (i := 3) rfl) ?_
    refine uu_aload_n dX12_moveNote_91 rfl (List.mem_of_getElem? (i := 0) rfl) ?_
    refine uu_iload_n dX12_moveNote_92 rfl (List.mem_of_getElem? (i := 1) rfl) ?_
    refine uu_iload_n dX12_moveNote_93 rfl (List.mem_of_getElem? (i := 3) rfl) ?_
    obtain ⟨v4, e5, h⟩ := uu_ob h
    refine uu_cv (d1 := 0) (k := 1079) (ci := 12) (T := TX12) (N := 153) (As := [.int x1, .int x3]) (st := [.int x3, .int x2, .ref (B + 1079)]) (st' := [.int v4, .int x3, .int x2, .ref (B + 1079)]) (xc_X12_handleAt uk  e5) so_1079.is (by decide) rfl kX12_handleAt lX12_854 sX12_handleAt (by decide) (Nat.le_of_ble_eq_true rfl) dX12_moveNote_94 rfl ?_
    obtain ⟨s6, e7, h⟩ := uu_ob h
    refine uu_cv (d1 := 0) (k := 1079) (ci := 12) (T := TX12) (N := 153) (As := [.int x2, .int x3, .int v4]) (st := []) (st' := []) (xc_X12_setHandle uk  e7) so_1079.is (by decide) rfl kX12_setHandle lX12_890 sX12_setHandle (by decide) (Nat.le_of_ble_eq_true rfl) dX12_moveNote_97 rfl ?_
    refine uu_iinc (v := x3 + 1) dX12_moveNote_100 (k := 3) rfl rfl (by decide) rfl ?_
    refine uu_goto (tgt := 78) dX12_moveNote_103 (by decide) ?_
    refine uu_lv [1, 2, 3, 0] (lv' := [(0, .ref (B + 1079)), (1, .int x1), (2, .int x2), (3, .int (x3 + 1))]) rfl ?_
    exact hK78 x1 x2 (x3 + 1) _ _ h
def fn_X12_moveNote_78  : Nat → Int32 → Int32 → Int32 → uS → Option uS
  | 0 => fun _ _ _ _ => none
  | n + 1 => fb_X12_moveNote_78 (fn_X12_moveNote_78  n)
set_option maxRecDepth 100000 in
set_option maxHeartbeats 4000000 in
theorem xn_X12_moveNote_78 {l : Launch} {D : va_G} {A : Nat → ClassId} {B : Nat} {Z : State → Heap → Prop} {vF : Value} (uk : uK B Z vF)   : ∀ (n : Nat) (x1 : Int32) (x2 : Int32) (x3 : Int32)  (s : uS) (r : uS), fn_X12_moveNote_78  n x1 x2 x3 s = some r → GU l D A B Z mX12_moveNote 1 (r, none) s 78 [(0, .ref (B + 1079)), (1, .int x1), (2, .int x2), (3, .int x3)] [] := by
  intro n
  induction n with
  | zero => intro x1 x2 x3 s r h
            cases h
  | succ n ih => intro x1 x2 x3 s r h
                 exact xb_X12_moveNote_78 uk ih  h
def fb_X12_moveNote_38 (K38 : Int32 → Int32 → Int32 → uS → Option uS) (x1 : Int32) (x2 : Int32) (x3 : Int32) (s : uS) : Option uS := (iget 20 s 1132 x1).bind fun v1 => if v1 ≤ x3 then (fn_X12_moveNote_78 uFu x1 x2 0 s) else ((iget 20 s 1131 (((101 : Int32) * x1) + x3)).bind fun v4 => (iput 20 s 1131 (((101 : Int32) * x2) + x3) v4).bind fun s6 => K38 x1 x2 (x3 + 1) s6)
set_option maxRecDepth 100000 in
set_option maxHeartbeats 4000000 in
theorem xb_X12_moveNote_38 {l : Launch} {D : va_G} {A : Nat → ClassId} {B : Nat} {Z : State → Heap → Prop} {vF : Value} (uk : uK B Z vF) {K38 : Int32 → Int32 → Int32 → uS → Option uS} (hK38 : ∀ (x1 : Int32) (x2 : Int32) (x3 : Int32)  (s : uS) (r : uS), K38 x1 x2 x3 s = some r → GU l D A B Z mX12_moveNote 1 (r, none) s 38 [(0, .ref (B + 1079)), (1, .int x1), (2, .int x2), (3, .int x3)] []) {x1 : Int32} {x2 : Int32} {x3 : Int32} {s : uS} {r : uS}  (h : fb_X12_moveNote_38 K38 x1 x2 x3 s = some r) : GU l D A B Z mX12_moveNote 1 (r, none) s 38 [(0, .ref (B + 1079)), (1, .int x1), (2, .int x2), (3, .int x3)] [] := by
  unfold fb_X12_moveNote_38 at h
  refine uu_iload_n dX12_moveNote_38 rfl (List.mem_of_getElem? (i := 3) rfl) ?_
  refine uu_aload_n dX12_moveNote_39 rfl (List.mem_of_getElem? (i := 0) rfl) ?_
  refine uu_geta (ci := 12) (N := 153) fX12_845 (by decide) so_1079.is (by decide) (c := 1132) (by decide) dX12_moveNote_40 ?_
  refine uu_iload_n dX12_moveNote_43 rfl (List.mem_of_getElem? (i := 1) rfl) ?_
  obtain ⟨v1, e2, h⟩ := uu_ob h
  refine uu_iald e2 dX12_moveNote_44 ?_
  refine uu_icmp_ge (tgt := 76) dX12_moveNote_45 (by decide) (fun c3 => ?_) (fun c3 => ?_)
  · replace h := uu_pos c3 h
    refine uu_iconst (v := 0) dX12_moveNote_76 (by decide) ?_
    refine uu_istore_n dX12_moveNote_77 rfl (by decide) rfl ?_
    refine uu_lv [1, 2, 3, 0] (lv' := [(0, .ref (B + 1079)), (1, .int x1), (2, .int x2), (3, .int 0)]) rfl ?_
    exact xn_X12_moveNote_78 uk  _ _ _ _ _ _ h
  · replace h := uu_neg c3 h
    refine uu_aload_n dX12_moveNote_48 rfl (List.mem_of_getElem? (i := 0) rfl) ?_
    refine uu_geta (ci := 12) (N := 153) fX12_851 (by decide) so_1079.is (by decide) (c := 1131) (by decide) dX12_moveNote_49 ?_
    refine uu_bipush (v := 101) dX12_moveNote_52 (by decide) ?_
    refine uu_iload_n dX12_moveNote_54 rfl (List.mem_of_getElem? (i := 2) rfl) ?_
    refine uu_imul dX12_moveNote_55 ?_
    refine uu_iload_n dX12_moveNote_56 rfl (List.mem_of_getElem? (i := 3) rfl) ?_
    refine uu_iadd dX12_moveNote_57 ?_
    refine uu_aload_n dX12_moveNote_58 rfl (List.mem_of_getElem? (i := 0) rfl) ?_
    refine uu_geta (ci := 12) (N := 153) fX12_851 (by decide) so_1079.is (by decide) (c := 1131) (by decide) dX12_moveNote_59 ?_
    refine uu_bipush (v := 101) dX12_moveNote_62 (by decide) ?_
    refine uu_iload_n dX12_moveNote_64 rfl (List.mem_of_getElem? (i := 1) rfl) ?_
    refine uu_imul dX12_moveNote_65 ?_
    refine uu_iload_n dX12_moveNote_66 rfl (List.mem_of_getElem? (i := 3) rfl) ?_
    refine uu_iadd dX12_moveNote_67 ?_
    obtain ⟨v4, e5, h⟩ := uu_ob h
    refine uu_iald e5 dX12_moveNote_68 ?_
    obtain ⟨s6, e7, h⟩ := uu_ob h
    refine uu_iast e7 dX12_moveNote_69 ?_
    refine uu_iinc (v := x3 + 1) dX12_moveNote_70 (k := 3) rfl rfl (by decide) rfl ?_
    refine uu_goto (tgt := 38) dX12_moveNote_73 (by decide) ?_
    refine uu_lv [1, 2, 3, 0] (lv' := [(0, .ref (B + 1079)), (1, .int x1), (2, .int x2), (3, .int (x3 + 1))]) rfl ?_
    exact hK38 x1 x2 (x3 + 1) _ _ h
def fn_X12_moveNote_38  : Nat → Int32 → Int32 → Int32 → uS → Option uS
  | 0 => fun _ _ _ _ => none
  | n + 1 => fb_X12_moveNote_38 (fn_X12_moveNote_38  n)
set_option maxRecDepth 100000 in
set_option maxHeartbeats 4000000 in
theorem xn_X12_moveNote_38 {l : Launch} {D : va_G} {A : Nat → ClassId} {B : Nat} {Z : State → Heap → Prop} {vF : Value} (uk : uK B Z vF)   : ∀ (n : Nat) (x1 : Int32) (x2 : Int32) (x3 : Int32)  (s : uS) (r : uS), fn_X12_moveNote_38  n x1 x2 x3 s = some r → GU l D A B Z mX12_moveNote 1 (r, none) s 38 [(0, .ref (B + 1079)), (1, .int x1), (2, .int x2), (3, .int x3)] [] := by
  intro n
  induction n with
  | zero => intro x1 x2 x3 s r h
            cases h
  | succ n ih => intro x1 x2 x3 s r h
                 exact xb_X12_moveNote_38 uk ih  h
def fn_X12_moveNote (x1 : Int32) (x2 : Int32) (s : uS) : Option uS := (iget 20 s 1130 x1).bind fun v1 => (iput 20 s 1130 x2 v1).bind fun s3 => (iget 20 s3 1132 x1).bind fun v5 => (iput 20 s3 1132 x2 v5).bind fun s7 => (iget 20 s7 1135 x1).bind fun v9 => (iput 20 s7 1135 x2 v9).bind fun s11 => fn_X12_moveNote_38 uFu x1 x2 0 s11
set_option maxRecDepth 100000 in
set_option maxHeartbeats 4000000 in
theorem xc_X12_moveNote {l : Launch} {D : va_G} {A : Nat → ClassId} {B : Nat} {Z : State → Heap → Prop} {vF : Value} (uk : uK B Z vF) {x1 : Int32} {x2 : Int32} {s : uS} {r : uS}  (h : fn_X12_moveNote x1 x2 s = some r) : CU l D A B Z 1 mX12_moveNote s [.ref (B + 1079), .int x1, .int x2] (r, none) := by
  unfold fn_X12_moveNote at h
  refine cu_of rfl uk.1.1 (Nat.le_of_ble_eq_true rfl) ?_
  show GU _ _ _ _ _ _ _ _ _ 0 [(0, .ref (B + 1079)), (1, .int x1), (2, .int x2)] []
  refine uu_aload_n dX12_moveNote_0 rfl (List.mem_of_getElem? (i := 0) rfl) ?_
  refine uu_geta (ci := 12) (N := 153) fX12_866 (by decide) so_1079.is (by decide) (c := 1130) (by decide) dX12_moveNote_1 ?_
  refine uu_iload_n dX12_moveNote_4 rfl (List.mem_of_getElem? (i := 2) rfl) ?_
  refine uu_aload_n dX12_moveNote_5 rfl (List.mem_of_getElem? (i := 0) rfl) ?_
  refine uu_geta (ci := 12) (N := 153) fX12_866 (by decide) so_1079.is (by decide) (c := 1130) (by decide) dX12_moveNote_6 ?_
  refine uu_iload_n dX12_moveNote_9 rfl (List.mem_of_getElem? (i := 1) rfl) ?_
  obtain ⟨v1, e2, h⟩ := uu_ob h
  refine uu_iald e2 dX12_moveNote_10 ?_
  obtain ⟨s3, e4, h⟩ := uu_ob h
  refine uu_iast e4 dX12_moveNote_11 ?_
  refine uu_aload_n dX12_moveNote_12 rfl (List.mem_of_getElem? (i := 0) rfl) ?_
  refine uu_geta (ci := 12) (N := 153) fX12_845 (by decide) so_1079.is (by decide) (c := 1132) (by decide) dX12_moveNote_13 ?_
  refine uu_iload_n dX12_moveNote_16 rfl (List.mem_of_getElem? (i := 2) rfl) ?_
  refine uu_aload_n dX12_moveNote_17 rfl (List.mem_of_getElem? (i := 0) rfl) ?_
  refine uu_geta (ci := 12) (N := 153) fX12_845 (by decide) so_1079.is (by decide) (c := 1132) (by decide) dX12_moveNote_18 ?_
  refine uu_iload_n dX12_moveNote_21 rfl (List.mem_of_getElem? (i := 1) rfl) ?_
  obtain ⟨v5, e6, h⟩ := uu_ob h
  refine uu_iald e6 dX12_moveNote_22 ?_
  obtain ⟨s7, e8, h⟩ := uu_ob h
  refine uu_iast e8 dX12_moveNote_23 ?_
  refine uu_aload_n dX12_moveNote_24 rfl (List.mem_of_getElem? (i := 0) rfl) ?_
  refine uu_geta (ci := 12) (N := 153) fX12_848 (by decide) so_1079.is (by decide) (c := 1135) (by decide) dX12_moveNote_25 ?_
  refine uu_iload_n dX12_moveNote_28 rfl (List.mem_of_getElem? (i := 2) rfl) ?_
  refine uu_aload_n dX12_moveNote_29 rfl (List.mem_of_getElem? (i := 0) rfl) ?_
  refine uu_geta (ci := 12) (N := 153) fX12_848 (by decide) so_1079.is (by decide) (c := 1135) (by decide) dX12_moveNote_30 ?_
  refine uu_iload_n dX12_moveNote_33 rfl (List.mem_of_getElem? (i := 1) rfl) ?_
  obtain ⟨v9, e10, h⟩ := uu_ob h
  refine uu_iald e10 dX12_moveNote_34 ?_
  obtain ⟨s11, e12, h⟩ := uu_ob h
  refine uu_iast e12 dX12_moveNote_35 ?_
  refine uu_iconst (v := 0) dX12_moveNote_36 (by decide) ?_
  refine uu_istore_n dX12_moveNote_37 rfl (by decide) rfl ?_
  refine uu_lv [1, 2, 3, 0] (lv' := [(0, .ref (B + 1079)), (1, .int x1), (2, .int x2), (3, .int 0)]) rfl ?_
  exact xn_X12_moveNote_38 uk  _ _ _ _ _ _ h
abbrev mX12_addNote : hM := (yX12_addNote, cX12_addNote, 4, none)
theorem dX12_addNote_173 : decode cX12_addNote 173 = .ok (.iload_n 3, 1) := by decide +kernel
theorem dX12_addNote_174 : decode cX12_addNote 174 = .ok (.aload_n 0, 1) := by decide +kernel
theorem dX12_addNote_175 : decode cX12_addNote 175 = .ok (.getfield 346, 3) := by decide +kernel
theorem dX12_addNote_178 : decode cX12_addNote 178 = .ok (.iload_n 2, 1) := by decide +kernel
theorem dX12_addNote_179 : decode cX12_addNote 179 = .ok (.iaload, 1) := by decide +kernel
theorem dX12_addNote_180 : decode cX12_addNote 180 = .ok (.if_icmp .ge 28, 3) := by decide +kernel
theorem dX12_addNote_208 : decode cX12_addNote 208 = .ok (.return_, 1) := by decide +kernel
theorem dX12_addNote_183 : decode cX12_addNote 183 = .ok (.aload_n 0, 1) := by decide +kernel
theorem dX12_addNote_184 : decode cX12_addNote 184 = .ok (.iload_n 1, 1) := by decide +kernel
theorem dX12_addNote_185 : decode cX12_addNote 185 = .ok (.iload_n 3, 1) := by decide +kernel
theorem dX12_addNote_186 : decode cX12_addNote 186 = .ok (.aload_n 0, 1) := by decide +kernel
theorem dX12_addNote_187 : decode cX12_addNote 187 = .ok (.getfield 260, 3) := by decide +kernel
theorem dX12_addNote_190 : decode cX12_addNote 190 = .ok (.aload_n 0, 1) := by decide +kernel
theorem dX12_addNote_191 : decode cX12_addNote 191 = .ok (.getfield 343, 3) := by decide +kernel
theorem dX12_addNote_194 : decode cX12_addNote 194 = .ok (.iload_n 2, 1) := by decide +kernel
theorem dX12_addNote_195 : decode cX12_addNote 195 = .ok (.iaload, 1) := by decide +kernel
theorem dX12_addNote_196 : decode cX12_addNote 196 = .ok (.iload_n 3, 1) := by decide +kernel
theorem dX12_addNote_197 : decode cX12_addNote 197 = .ok (.iadd, 1) := by decide +kernel
theorem dX12_addNote_198 : decode cX12_addNote 198 = .ok (.iaload, 1) := by decide +kernel
theorem dX12_addNote_199 : decode cX12_addNote 199 = .ok (.invokevirtual 890, 3) := by decide +kernel
theorem dX12_addNote_202 : decode cX12_addNote 202 = .ok (.iinc 3 1, 3) := by decide +kernel
theorem dX12_addNote_205 : decode cX12_addNote 205 = .ok (.goto (-32), 3) := by decide +kernel
theorem dX12_addNote_123 : decode cX12_addNote 123 = .ok (.iload_n 2, 1) := by decide +kernel
theorem dX12_addNote_124 : decode cX12_addNote 124 = .ok (.aload_n 0, 1) := by decide +kernel
theorem dX12_addNote_125 : decode cX12_addNote 125 = .ok (.getfield 678, 3) := by decide +kernel
theorem dX12_addNote_128 : decode cX12_addNote 128 = .ok (.if_icmp .ge 26, 3) := by decide +kernel
theorem dX12_addNote_154 : decode cX12_addNote 154 = .ok (.aload_n 0, 1) := by decide +kernel
theorem dX12_addNote_155 : decode cX12_addNote 155 = .ok (.invokevirtual 842, 3) := by decide +kernel
theorem dX12_addNote_158 : decode cX12_addNote 158 = .ok (.istore_n 2, 1) := by decide +kernel
theorem dX12_addNote_159 : decode cX12_addNote 159 = .ok (.aload_n 0, 1) := by decide +kernel
theorem dX12_addNote_160 : decode cX12_addNote 160 = .ok (.getfield 848, 3) := by decide +kernel
theorem dX12_addNote_163 : decode cX12_addNote 163 = .ok (.iload_n 1, 1) := by decide +kernel
theorem dX12_addNote_164 : decode cX12_addNote 164 = .ok (.aload_n 0, 1) := by decide +kernel
theorem dX12_addNote_165 : decode cX12_addNote 165 = .ok (.getfield 346, 3) := by decide +kernel
theorem dX12_addNote_168 : decode cX12_addNote 168 = .ok (.iload_n 2, 1) := by decide +kernel
theorem dX12_addNote_169 : decode cX12_addNote 169 = .ok (.iaload, 1) := by decide +kernel
theorem dX12_addNote_170 : decode cX12_addNote 170 = .ok (.iastore, 1) := by decide +kernel
theorem dX12_addNote_171 : decode cX12_addNote 171 = .ok (.iconst 0, 1) := by decide +kernel
theorem dX12_addNote_172 : decode cX12_addNote 172 = .ok (.istore_n 3, 1) := by decide +kernel
theorem dX12_addNote_131 : decode cX12_addNote 131 = .ok (.aload_n 0, 1) := by decide +kernel
theorem dX12_addNote_132 : decode cX12_addNote 132 = .ok (.getfield 851, 3) := by decide +kernel
theorem dX12_addNote_135 : decode cX12_addNote 135 = .ok (.bipush 101, 2) := by decide +kernel
theorem dX12_addNote_137 : decode cX12_addNote 137 = .ok (.iload_n 1, 1) := by decide +kernel
theorem dX12_addNote_138 : decode cX12_addNote 138 = .ok (.imul, 1) := by decide +kernel
theorem dX12_addNote_139 : decode cX12_addNote 139 = .ok (.iload_n 2, 1) := by decide +kernel
theorem dX12_addNote_140 : decode cX12_addNote 140 = .ok (.iadd, 1) := by decide +kernel
theorem dX12_addNote_141 : decode cX12_addNote 141 = .ok (.aload_n 0, 1) := by decide +kernel
theorem dX12_addNote_142 : decode cX12_addNote 142 = .ok (.getfield 681, 3) := by decide +kernel
theorem dX12_addNote_145 : decode cX12_addNote 145 = .ok (.iload_n 2, 1) := by decide +kernel
theorem dX12_addNote_146 : decode cX12_addNote 146 = .ok (.iaload, 1) := by decide +kernel
theorem dX12_addNote_147 : decode cX12_addNote 147 = .ok (.iastore, 1) := by decide +kernel
theorem dX12_addNote_148 : decode cX12_addNote 148 = .ok (.iinc 2 1, 3) := by decide +kernel
theorem dX12_addNote_151 : decode cX12_addNote 151 = .ok (.goto (-28), 3) := by decide +kernel
theorem dX12_addNote_63 : decode cX12_addNote 63 = .ok (.bipush 40, 2) := by decide +kernel
theorem dX12_addNote_65 : decode cX12_addNote 65 = .ok (.aload_n 0, 1) := by decide +kernel
theorem dX12_addNote_66 : decode cX12_addNote 66 = .ok (.getfield 799, 3) := by decide +kernel
theorem dX12_addNote_69 : decode cX12_addNote 69 = .ok (.imul, 1) := by decide +kernel
theorem dX12_addNote_70 : decode cX12_addNote 70 = .ok (.aload_n 0, 1) := by decide +kernel
theorem dX12_addNote_71 : decode cX12_addNote 71 = .ok (.getfield 857, 3) := by decide +kernel
theorem dX12_addNote_74 : decode cX12_addNote 74 = .ok (.aload_n 0, 1) := by decide +kernel
theorem dX12_addNote_75 : decode cX12_addNote 75 = .ok (.getfield 799, 3) := by decide +kernel
theorem dX12_addNote_78 : decode cX12_addNote 78 = .ok (.iaload, 1) := by decide +kernel
theorem dX12_addNote_79 : decode cX12_addNote 79 = .ok (.iadd, 1) := by decide +kernel
theorem dX12_addNote_80 : decode cX12_addNote 80 = .ok (.istore_n 1, 1) := by decide +kernel
theorem dX12_addNote_81 : decode cX12_addNote 81 = .ok (.aload_n 0, 1) := by decide +kernel
theorem dX12_addNote_82 : decode cX12_addNote 82 = .ok (.getfield 857, 3) := by decide +kernel
theorem dX12_addNote_85 : decode cX12_addNote 85 = .ok (.aload_n 0, 1) := by decide +kernel
theorem dX12_addNote_86 : decode cX12_addNote 86 = .ok (.getfield 799, 3) := by decide +kernel
theorem dX12_addNote_89 : decode cX12_addNote 89 = .ok (.aload_n 0, 1) := by decide +kernel
theorem dX12_addNote_90 : decode cX12_addNote 90 = .ok (.getfield 857, 3) := by decide +kernel
theorem dX12_addNote_93 : decode cX12_addNote 93 = .ok (.aload_n 0, 1) := by decide +kernel
theorem dX12_addNote_94 : decode cX12_addNote 94 = .ok (.getfield 799, 3) := by decide +kernel
theorem dX12_addNote_97 : decode cX12_addNote 97 = .ok (.iaload, 1) := by decide +kernel
theorem dX12_addNote_98 : decode cX12_addNote 98 = .ok (.iconst 1, 1) := by decide +kernel
theorem dX12_addNote_99 : decode cX12_addNote 99 = .ok (.iadd, 1) := by decide +kernel
theorem dX12_addNote_100 : decode cX12_addNote 100 = .ok (.iastore, 1) := by decide +kernel
theorem dX12_addNote_101 : decode cX12_addNote 101 = .ok (.aload_n 0, 1) := by decide +kernel
theorem dX12_addNote_102 : decode cX12_addNote 102 = .ok (.getfield 866, 3) := by decide +kernel
theorem dX12_addNote_105 : decode cX12_addNote 105 = .ok (.iload_n 1, 1) := by decide +kernel
theorem dX12_addNote_106 : decode cX12_addNote 106 = .ok (.aload_n 0, 1) := by decide +kernel
theorem dX12_addNote_107 : decode cX12_addNote 107 = .ok (.getfield 863, 3) := by decide +kernel
theorem dX12_addNote_110 : decode cX12_addNote 110 = .ok (.iastore, 1) := by decide +kernel
theorem dX12_addNote_111 : decode cX12_addNote 111 = .ok (.aload_n 0, 1) := by decide +kernel
theorem dX12_addNote_112 : decode cX12_addNote 112 = .ok (.getfield 845, 3) := by decide +kernel
theorem dX12_addNote_115 : decode cX12_addNote 115 = .ok (.iload_n 1, 1) := by decide +kernel
theorem dX12_addNote_116 : decode cX12_addNote 116 = .ok (.aload_n 0, 1) := by decide +kernel
theorem dX12_addNote_117 : decode cX12_addNote 117 = .ok (.getfield 678, 3) := by decide +kernel
theorem dX12_addNote_120 : decode cX12_addNote 120 = .ok (.iastore, 1) := by decide +kernel
theorem dX12_addNote_121 : decode cX12_addNote 121 = .ok (.iconst 0, 1) := by decide +kernel
theorem dX12_addNote_122 : decode cX12_addNote 122 = .ok (.istore_n 2, 1) := by decide +kernel
theorem dX12_addNote_16 : decode cX12_addNote 16 = .ok (.iload_n 1, 1) := by decide +kernel
theorem dX12_addNote_17 : decode cX12_addNote 17 = .ok (.bipush 40, 2) := by decide +kernel
theorem dX12_addNote_19 : decode cX12_addNote 19 = .ok (.if_icmp .ge 33, 3) := by decide +kernel
theorem dX12_addNote_52 : decode cX12_addNote 52 = .ok (.aload_n 0, 1) := by decide +kernel
theorem dX12_addNote_53 : decode cX12_addNote 53 = .ok (.getfield 857, 3) := by decide +kernel
theorem dX12_addNote_56 : decode cX12_addNote 56 = .ok (.aload_n 0, 1) := by decide +kernel
theorem dX12_addNote_57 : decode cX12_addNote 57 = .ok (.getfield 799, 3) := by decide +kernel
theorem dX12_addNote_60 : decode cX12_addNote 60 = .ok (.bipush 39, 2) := by decide +kernel
theorem dX12_addNote_62 : decode cX12_addNote 62 = .ok (.iastore, 1) := by decide +kernel
theorem dX12_addNote_22 : decode cX12_addNote 22 = .ok (.aload_n 0, 1) := by decide +kernel
theorem dX12_addNote_23 : decode cX12_addNote 23 = .ok (.bipush 40, 2) := by decide +kernel
theorem dX12_addNote_25 : decode cX12_addNote 25 = .ok (.aload_n 0, 1) := by decide +kernel
theorem dX12_addNote_26 : decode cX12_addNote 26 = .ok (.getfield 799, 3) := by decide +kernel
theorem dX12_addNote_29 : decode cX12_addNote 29 = .ok (.imul, 1) := by decide +kernel
theorem dX12_addNote_30 : decode cX12_addNote 30 = .ok (.iload_n 1, 1) := by decide +kernel
theorem dX12_addNote_31 : decode cX12_addNote 31 = .ok (.iadd, 1) := by decide +kernel
theorem dX12_addNote_32 : decode cX12_addNote 32 = .ok (.bipush 40, 2) := by decide +kernel
theorem dX12_addNote_34 : decode cX12_addNote 34 = .ok (.aload_n 0, 1) := by decide +kernel
theorem dX12_addNote_35 : decode cX12_addNote 35 = .ok (.getfield 799, 3) := by decide +kernel
theorem dX12_addNote_38 : decode cX12_addNote 38 = .ok (.imul, 1) := by decide +kernel
theorem dX12_addNote_39 : decode cX12_addNote 39 = .ok (.iload_n 1, 1) := by decide +kernel
theorem dX12_addNote_40 : decode cX12_addNote 40 = .ok (.iadd, 1) := by decide +kernel
theorem dX12_addNote_41 : decode cX12_addNote 41 = .ok (.iconst 1, 1) := by decide +kernel
theorem dX12_addNote_42 : decode cX12_addNote 42 = .ok (.isub, 1) := by decide +kernel
theorem kX12_moveNote : h_ml mX12_moveNote 2 := ⟨h_t10 167 rfl rfl, h_t1 16 rfl rfl, ⟨by decide, by decide, by decide +kernel⟩, by decide⟩
theorem lX12_894 : Cond.methodLink RX12 894 mX12_moveNote.1 ∈ lw_g := h_t10 164 rfl rfl
theorem sX12_moveNote : Cond.instanceMethod mX12_moveNote.1 ∈ lw_g ∧ Cond.selects mX12_moveNote.1.cls mX12_moveNote.1 mX12_moveNote.1 ∈ lw_g := ⟨h_t10 166 rfl rfl, h_ins 234 rfl⟩
theorem dX12_addNote_43 : decode cX12_addNote 43 = .ok (.invokevirtual 894, 3) := by decide +kernel
theorem dX12_addNote_46 : decode cX12_addNote 46 = .ok (.iinc 1 1, 3) := by decide +kernel
theorem dX12_addNote_49 : decode cX12_addNote 49 = .ok (.goto (-33), 3) := by decide +kernel
theorem dX12_addNote_0 : decode cX12_addNote 0 = .ok (.aload_n 0, 1) := by decide +kernel
theorem dX12_addNote_1 : decode cX12_addNote 1 = .ok (.getfield 857, 3) := by decide +kernel
theorem dX12_addNote_4 : decode cX12_addNote 4 = .ok (.aload_n 0, 1) := by decide +kernel
theorem dX12_addNote_5 : decode cX12_addNote 5 = .ok (.getfield 799, 3) := by decide +kernel
theorem dX12_addNote_8 : decode cX12_addNote 8 = .ok (.iaload, 1) := by decide +kernel
theorem dX12_addNote_9 : decode cX12_addNote 9 = .ok (.bipush 40, 2) := by decide +kernel
theorem dX12_addNote_11 : decode cX12_addNote 11 = .ok (.if_icmp .ne 52, 3) := by decide +kernel
theorem dX12_addNote_14 : decode cX12_addNote 14 = .ok (.iconst 1, 1) := by decide +kernel
theorem dX12_addNote_15 : decode cX12_addNote 15 = .ok (.istore_n 1, 1) := by decide +kernel
def fb_X12_addNote_173 (K173 : Int32 → Int32 → Int32 → uS → Option uS) (x1 : Int32) (x2 : Int32) (x3 : Int32) (s : uS) : Option uS := (iget 20 s 1117 x2).bind fun v1 => if v1 ≤ x3 then (some s) else ((iget 20 s 1116 x2).bind fun v4 => (iget 20 s 1097 (v4 + x3)).bind fun v6 => (fn_X12_setHandle x1 x3 v6 s).bind fun s8 => K173 x1 x2 (x3 + 1) s8)
set_option maxRecDepth 100000 in
set_option maxHeartbeats 4000000 in
theorem xb_X12_addNote_173 {l : Launch} {D : va_G} {A : Nat → ClassId} {B : Nat} {Z : State → Heap → Prop} {vF : Value} (uk : uK B Z vF) {K173 : Int32 → Int32 → Int32 → uS → Option uS} (hK173 : ∀ (x1 : Int32) (x2 : Int32) (x3 : Int32)  (s : uS) (r : uS), K173 x1 x2 x3 s = some r → GU l D A B Z mX12_addNote 2 (r, none) s 173 [(0, .ref (B + 1079)), (1, .int x1), (2, .int x2), (3, .int x3)] []) {x1 : Int32} {x2 : Int32} {x3 : Int32} {s : uS} {r : uS}  (h : fb_X12_addNote_173 K173 x1 x2 x3 s = some r) : GU l D A B Z mX12_addNote 2 (r, none) s 173 [(0, .ref (B + 1079)), (1, .int x1), (2, .int x2), (3, .int x3)] [] := by
  unfold fb_X12_addNote_173 at h
  refine uu_iload_n dX12_addNote_173 rfl (List.mem_of_getElem? (i := 3) rfl) ?_
  refine uu_aload_n dX12_addNote_174 rfl (List.mem_of_getElem? (i := 0) rfl) ?_
  refine uu_geta (ci := 12) (N := 153) fX12_346 (by decide) so_1079.is (by decide) (c := 1117) (by decide) dX12_addNote_175 ?_
  refine uu_iload_n dX12_addNote_178 rfl (List.mem_of_getElem? (i := 2) rfl) ?_
  obtain ⟨v1, e2, h⟩ := uu_ob h
  refine uu_iald e2 dX12_addNote_179 ?_
  refine uu_icmp_ge (tgt := 208) dX12_addNote_180 (by decide) (fun c3 => ?_) (fun c3 => ?_)
  · replace h := uu_pos c3 h
    have hr := Option.some.inj h
    subst hr
    exact uu_vret rfl dX12_addNote_208
  · replace h := uu_neg c3 h
    refine uu_aload_n dX12_addNote_183 rfl (List.mem_of_getElem? (i := 0) rfl) ?_
    refine uu_iload_n dX12_addNote_184 rfl (List.mem_of_getElem? (i := 1) rfl) ?_
    refine uu_iload_n dX12_addNote_185 rfl (List.mem_of_getElem? (i := 3) rfl) ?_
    refine uu_aload_n dX12_addNote_186 rfl (List.mem_of_getElem? (i := 0) rfl) ?_
    refine uu_geta (ci := 12) (N := 153) fX12_260 (by decide) so_1079.is (by decide) (c := 1097) (by decide) dX12_addNote_187 ?_
    refine uu_aload_n dX12_addNote_190 rfl (List.mem_of_getElem? (i := 0) rfl) ?_
    refine uu_geta (ci := 12) (N := 153) fX12_343 (by decide) so_1079.is (by decide) (c := 1116) (by decide) dX12_addNote_191 ?_
    refine uu_iload_n dX12_addNote_194 rfl (List.mem_of_getElem? (i := 2) rfl) ?_
    obtain ⟨v4, e5, h⟩ := uu_ob h
    refine uu_iald e5 dX12_addNote_195 ?_
    refine uu_iload_n dX12_addNote_196 rfl (List.mem_of_getElem? (i := 3) rfl) ?_
    refine uu_iadd dX12_addNote_197 ?_
    obtain ⟨v6, e7, h⟩ := uu_ob h
    refine uu_iald e7 dX12_addNote_198 ?_
    obtain ⟨s8, e9, h⟩ := uu_ob h
    refine uu_cv (d1 := 0) (k := 1079) (ci := 12) (T := TX12) (N := 153) (As := [.int x1, .int x3, .int v6]) (st := []) (st' := []) (xc_X12_setHandle uk  e9) so_1079.is (by decide) rfl kX12_setHandle lX12_890 sX12_setHandle (by decide) (Nat.le_of_ble_eq_true rfl) dX12_addNote_199 rfl ?_
    refine uu_iinc (v := x3 + 1) dX12_addNote_202 (k := 3) rfl rfl (by decide) rfl ?_
    refine uu_goto (tgt := 173) dX12_addNote_205 (by decide) ?_
    refine uu_lv [1, 2, 3, 0] (lv' := [(0, .ref (B + 1079)), (1, .int x1), (2, .int x2), (3, .int (x3 + 1))]) rfl ?_
    exact hK173 x1 x2 (x3 + 1) _ _ h
def fn_X12_addNote_173  : Nat → Int32 → Int32 → Int32 → uS → Option uS
  | 0 => fun _ _ _ _ => none
  | n + 1 => fb_X12_addNote_173 (fn_X12_addNote_173  n)
set_option maxRecDepth 100000 in
set_option maxHeartbeats 4000000 in
theorem xn_X12_addNote_173 {l : Launch} {D : va_G} {A : Nat → ClassId} {B : Nat} {Z : State → Heap → Prop} {vF : Value} (uk : uK B Z vF)   : ∀ (n : Nat) (x1 : Int32) (x2 : Int32) (x3 : Int32)  (s : uS) (r : uS), fn_X12_addNote_173  n x1 x2 x3 s = some r → GU l D A B Z mX12_addNote 2 (r, none) s 173 [(0, .ref (B + 1079)), (1, .int x1), (2, .int x2), (3, .int x3)] [] := by
  intro n
  induction n with
  | zero => intro x1 x2 x3 s r h
            cases h
  | succ n ih => intro x1 x2 x3 s r h
                 exact xb_X12_addNote_173 uk ih  h
def fb_X12_addNote_123 (K123 : Int32 → Int32 → uS → Option uS) (x1 : Int32) (x2 : Int32) (s : uS) : Option uS := if (s.I 1079 93) ≤ x2 then ((fn_X12_handleString s).bind fun v2 => (iget 20 s 1117 v2).bind fun v4 => (iput 20 s 1135 x1 v4).bind fun s6 => fn_X12_addNote_173 uFu x1 v2 0 s6) else ((iget 20 s 1137 x2).bind fun v8 => (iput 20 s 1131 (((101 : Int32) * x1) + x2) v8).bind fun s10 => K123 x1 (x2 + 1) s10)
set_option maxRecDepth 100000 in
set_option maxHeartbeats 4000000 in
theorem xb_X12_addNote_123 {l : Launch} {D : va_G} {A : Nat → ClassId} {B : Nat} {Z : State → Heap → Prop} {vF : Value} (uk : uK B Z vF) {K123 : Int32 → Int32 → uS → Option uS} (hK123 : ∀ (x1 : Int32) (x2 : Int32)  (s : uS) (r : uS), K123 x1 x2 s = some r → GU l D A B Z mX12_addNote 2 (r, none) s 123 [(0, .ref (B + 1079)), (1, .int x1), (2, .int x2)] []) {x1 : Int32} {x2 : Int32} {s : uS} {r : uS}  (h : fb_X12_addNote_123 K123 x1 x2 s = some r) : GU l D A B Z mX12_addNote 2 (r, none) s 123 [(0, .ref (B + 1079)), (1, .int x1), (2, .int x2)] [] := by
  unfold fb_X12_addNote_123 at h
  refine uu_iload_n dX12_addNote_123 rfl (List.mem_of_getElem? (i := 2) rfl) ?_
  refine uu_aload_n dX12_addNote_124 rfl (List.mem_of_getElem? (i := 0) rfl) ?_
  refine uu_geti (ci := 12) (N := 153) fX12_678 (by decide) so_1079.is (by decide) (by decide) dX12_addNote_125 ?_
  refine uu_icmp_ge (tgt := 154) dX12_addNote_128 (by decide) (fun c1 => ?_) (fun c1 => ?_)
  · replace h := uu_pos c1 h
    refine uu_aload_n dX12_addNote_154 rfl (List.mem_of_getElem? (i := 0) rfl) ?_
    obtain ⟨v2, e3, h⟩ := uu_ob h
    refine uu_cv (d1 := 0) (k := 1079) (ci := 12) (T := TX12) (N := 153) (As := []) (st := []) (st' := [.int v2]) (xc_X12_handleString uk  e3) so_1079.is (by decide) rfl kX12_handleString lX12_842 sX12_handleString (by decide) (Nat.le_of_ble_eq_true rfl) dX12_addNote_155 rfl ?_
    refine uu_istore_n dX12_addNote_158 rfl (by decide) rfl ?_
    refine uu_aload_n dX12_addNote_159 rfl (List.mem_of_getElem? (i := 1) rfl) ?_
    refine uu_geta (ci := 12) (N := 153) fX12_848 (by decide) so_1079.is (by decide) (c := 1135) (by decide) dX12_addNote_160 ?_
    refine uu_iload_n dX12_addNote_163 rfl (List.mem_of_getElem? (i := 2) rfl) ?_
    refine uu_aload_n dX12_addNote_164 rfl (List.mem_of_getElem? (i := 1) rfl) ?_
    refine uu_geta (ci := 12) (N := 153) fX12_346 (by decide) so_1079.is (by decide) (c := 1117) (by decide) dX12_addNote_165 ?_
    refine uu_iload_n dX12_addNote_168 rfl (List.mem_of_getElem? (i := 0) rfl) ?_
    obtain ⟨v4, e5, h⟩ := uu_ob h
    refine uu_iald e5 dX12_addNote_169 ?_
    obtain ⟨s6, e7, h⟩ := uu_ob h
    refine uu_iast e7 dX12_addNote_170 ?_
    refine uu_iconst (v := 0) dX12_addNote_171 (by decide) ?_
    refine uu_istore_n dX12_addNote_172 rfl (by decide) rfl ?_
    refine uu_lv [2, 3, 1, 0] (lv' := [(0, .ref (B + 1079)), (1, .int x1), (2, .int v2), (3, .int 0)]) rfl ?_
    exact xn_X12_addNote_173 uk  _ _ _ _ _ _ h
  · replace h := uu_neg c1 h
    refine uu_aload_n dX12_addNote_131 rfl (List.mem_of_getElem? (i := 0) rfl) ?_
    refine uu_geta (ci := 12) (N := 153) fX12_851 (by decide) so_1079.is (by decide) (c := 1131) (by decide) dX12_addNote_132 ?_
    refine uu_bipush (v := 101) dX12_addNote_135 (by decide) ?_
    refine uu_iload_n dX12_addNote_137 rfl (List.mem_of_getElem? (i := 1) rfl) ?_
    refine uu_imul dX12_addNote_138 ?_
    refine uu_iload_n dX12_addNote_139 rfl (List.mem_of_getElem? (i := 2) rfl) ?_
    refine uu_iadd dX12_addNote_140 ?_
    refine uu_aload_n dX12_addNote_141 rfl (List.mem_of_getElem? (i := 0) rfl) ?_
    refine uu_geta (ci := 12) (N := 153) fX12_681 (by decide) so_1079.is (by decide) (c := 1137) (by decide) dX12_addNote_142 ?_
    refine uu_iload_n dX12_addNote_145 rfl (List.mem_of_getElem? (i := 2) rfl) ?_
    obtain ⟨v8, e9, h⟩ := uu_ob h
    refine uu_iald e9 dX12_addNote_146 ?_
    obtain ⟨s10, e11, h⟩ := uu_ob h
    refine uu_iast e11 dX12_addNote_147 ?_
    refine uu_iinc (v := x2 + 1) dX12_addNote_148 (k := 2) rfl rfl (by decide) rfl ?_
    refine uu_goto (tgt := 123) dX12_addNote_151 (by decide) ?_
    refine uu_lv [1, 2, 0] (lv' := [(0, .ref (B + 1079)), (1, .int x1), (2, .int (x2 + 1))]) rfl ?_
    exact hK123 x1 (x2 + 1) _ _ h
def fn_X12_addNote_123  : Nat → Int32 → Int32 → uS → Option uS
  | 0 => fun _ _ _ => none
  | n + 1 => fb_X12_addNote_123 (fn_X12_addNote_123  n)
set_option maxRecDepth 100000 in
set_option maxHeartbeats 4000000 in
theorem xn_X12_addNote_123 {l : Launch} {D : va_G} {A : Nat → ClassId} {B : Nat} {Z : State → Heap → Prop} {vF : Value} (uk : uK B Z vF)   : ∀ (n : Nat) (x1 : Int32) (x2 : Int32)  (s : uS) (r : uS), fn_X12_addNote_123  n x1 x2 s = some r → GU l D A B Z mX12_addNote 2 (r, none) s 123 [(0, .ref (B + 1079)), (1, .int x1), (2, .int x2)] [] := by
  intro n
  induction n with
  | zero => intro x1 x2 s r h
            cases h
  | succ n ih => intro x1 x2 s r h
                 exact xb_X12_addNote_123 uk ih  h
def fb_X12_addNote_63   (s : uS) : Option uS := (iget 20 s 1129 (s.I 1079 89)).bind fun v1 => (iget 20 s 1129 (s.I 1079 89)).bind fun v3 => (iput 20 s 1129 (s.I 1079 89) (v3 + 1)).bind fun s5 => (iput 20 s5 1130 (((40 : Int32) * (s.I 1079 89)) + v1) (s5.I 1079 1)).bind fun s7 => (iput 20 s7 1132 (((40 : Int32) * (s.I 1079 89)) + v1) (s7.I 1079 93)).bind fun s9 => fn_X12_addNote_123 uFu (((40 : Int32) * (s.I 1079 89)) + v1) 0 s9
set_option maxRecDepth 100000 in
set_option maxHeartbeats 4000000 in
theorem xb_X12_addNote_63 {l : Launch} {D : va_G} {A : Nat → ClassId} {B : Nat} {Z : State → Heap → Prop} {vF : Value} (uk : uK B Z vF)    {s : uS} {r : uS}  (h : fb_X12_addNote_63   s = some r) : GU l D A B Z mX12_addNote 2 (r, none) s 63 [(0, .ref (B + 1079))] [] := by
  unfold fb_X12_addNote_63 at h
  refine uu_bipush (v := 40) dX12_addNote_63 (by decide) ?_
  refine uu_aload_n dX12_addNote_65 rfl (List.mem_of_getElem? (i := 0) rfl) ?_
  refine uu_geti (ci := 12) (N := 153) fX12_799 (by decide) so_1079.is (by decide) (by decide) dX12_addNote_66 ?_
  refine uu_imul dX12_addNote_69 ?_
  refine uu_aload_n dX12_addNote_70 rfl (List.mem_of_getElem? (i := 0) rfl) ?_
  refine uu_geta (ci := 12) (N := 153) fX12_857 (by decide) so_1079.is (by decide) (c := 1129) (by decide) dX12_addNote_71 ?_
  refine uu_aload_n dX12_addNote_74 rfl (List.mem_of_getElem? (i := 0) rfl) ?_
  refine uu_geti (ci := 12) (N := 153) fX12_799 (by decide) so_1079.is (by decide) (by decide) dX12_addNote_75 ?_
  obtain ⟨v1, e2, h⟩ := uu_ob h
  refine uu_iald e2 dX12_addNote_78 ?_
  refine uu_iadd dX12_addNote_79 ?_
  refine uu_istore_n dX12_addNote_80 rfl (by decide) rfl ?_
  refine uu_aload_n dX12_addNote_81 rfl (List.mem_of_getElem? (i := 1) rfl) ?_
  refine uu_geta (ci := 12) (N := 153) fX12_857 (by decide) so_1079.is (by decide) (c := 1129) (by decide) dX12_addNote_82 ?_
  refine uu_aload_n dX12_addNote_85 rfl (List.mem_of_getElem? (i := 1) rfl) ?_
  refine uu_geti (ci := 12) (N := 153) fX12_799 (by decide) so_1079.is (by decide) (by decide) dX12_addNote_86 ?_
  refine uu_aload_n dX12_addNote_89 rfl (List.mem_of_getElem? (i := 1) rfl) ?_
  refine uu_geta (ci := 12) (N := 153) fX12_857 (by decide) so_1079.is (by decide) (c := 1129) (by decide) dX12_addNote_90 ?_
  refine uu_aload_n dX12_addNote_93 rfl (List.mem_of_getElem? (i := 1) rfl) ?_
  refine uu_geti (ci := 12) (N := 153) fX12_799 (by decide) so_1079.is (by decide) (by decide) dX12_addNote_94 ?_
  obtain ⟨v3, e4, h⟩ := uu_ob h
  refine uu_iald e4 dX12_addNote_97 ?_
  refine uu_iconst (v := 1) dX12_addNote_98 (by decide) ?_
  refine uu_iadd dX12_addNote_99 ?_
  obtain ⟨s5, e6, h⟩ := uu_ob h
  refine uu_iast e6 dX12_addNote_100 ?_
  refine uu_aload_n dX12_addNote_101 rfl (List.mem_of_getElem? (i := 1) rfl) ?_
  refine uu_geta (ci := 12) (N := 153) fX12_866 (by decide) so_1079.is (by decide) (c := 1130) (by decide) dX12_addNote_102 ?_
  refine uu_iload_n dX12_addNote_105 rfl (List.mem_of_getElem? (i := 0) rfl) ?_
  refine uu_aload_n dX12_addNote_106 rfl (List.mem_of_getElem? (i := 1) rfl) ?_
  refine uu_geti (ci := 12) (N := 153) fX12_863 (by decide) so_1079.is (by decide) (by decide) dX12_addNote_107 ?_
  obtain ⟨s7, e8, h⟩ := uu_ob h
  refine uu_iast e8 dX12_addNote_110 ?_
  refine uu_aload_n dX12_addNote_111 rfl (List.mem_of_getElem? (i := 1) rfl) ?_
  refine uu_geta (ci := 12) (N := 153) fX12_845 (by decide) so_1079.is (by decide) (c := 1132) (by decide) dX12_addNote_112 ?_
  refine uu_iload_n dX12_addNote_115 rfl (List.mem_of_getElem? (i := 0) rfl) ?_
  refine uu_aload_n dX12_addNote_116 rfl (List.mem_of_getElem? (i := 1) rfl) ?_
  refine uu_geti (ci := 12) (N := 153) fX12_678 (by decide) so_1079.is (by decide) (by decide) dX12_addNote_117 ?_
  obtain ⟨s9, e10, h⟩ := uu_ob h
  refine uu_iast e10 dX12_addNote_120 ?_
  refine uu_iconst (v := 0) dX12_addNote_121 (by decide) ?_
  refine uu_istore_n dX12_addNote_122 rfl (by decide) rfl ?_
  refine uu_lv [2, 1, 0] (lv' := [(0, .ref (B + 1079)), (1, .int (((40 : Int32) * (s.I 1079 89)) + v1)), (2, .int 0)]) rfl ?_
  exact xn_X12_addNote_123 uk  _ _ _ _ _ h
def fb_X12_addNote_16 (K16 : Int32 → uS → Option uS) (x1 : Int32) (s : uS) : Option uS := if (40 : Int32) ≤ x1 then ((iput 20 s 1129 (s.I 1079 89) 39).bind fun s2 => fb_X12_addNote_63 s2) else ((fn_X12_moveNote (((40 : Int32) * (s.I 1079 89)) + x1) ((((40 : Int32) * (s.I 1079 89)) + x1) - 1) s).bind fun s4 => K16 (x1 + 1) s4)
set_option maxRecDepth 100000 in
set_option maxHeartbeats 4000000 in
theorem xb_X12_addNote_16 {l : Launch} {D : va_G} {A : Nat → ClassId} {B : Nat} {Z : State → Heap → Prop} {vF : Value} (uk : uK B Z vF) {K16 : Int32 → uS → Option uS} (hK16 : ∀ (x1 : Int32)  (s : uS) (r : uS), K16 x1 s = some r → GU l D A B Z mX12_addNote 2 (r, none) s 16 [(0, .ref (B + 1079)), (1, .int x1)] []) {x1 : Int32} {s : uS} {r : uS}  (h : fb_X12_addNote_16 K16 x1 s = some r) : GU l D A B Z mX12_addNote 2 (r, none) s 16 [(0, .ref (B + 1079)), (1, .int x1)] [] := by
  unfold fb_X12_addNote_16 at h
  refine uu_iload_n dX12_addNote_16 rfl (List.mem_of_getElem? (i := 1) rfl) ?_
  refine uu_bipush (v := 40) dX12_addNote_17 (by decide) ?_
  refine uu_icmp_ge (tgt := 52) dX12_addNote_19 (by decide) (fun c1 => ?_) (fun c1 => ?_)
  · replace h := uu_pos c1 h
    refine uu_aload_n dX12_addNote_52 rfl (List.mem_of_getElem? (i := 0) rfl) ?_
    refine uu_geta (ci := 12) (N := 153) fX12_857 (by decide) so_1079.is (by decide) (c := 1129) (by decide) dX12_addNote_53 ?_
    refine uu_aload_n dX12_addNote_56 rfl (List.mem_of_getElem? (i := 0) rfl) ?_
    refine uu_geti (ci := 12) (N := 153) fX12_799 (by decide) so_1079.is (by decide) (by decide) dX12_addNote_57 ?_
    refine uu_bipush (v := 39) dX12_addNote_60 (by decide) ?_
    obtain ⟨s2, e3, h⟩ := uu_ob h
    refine uu_iast e3 dX12_addNote_62 ?_
    refine uu_lv [0] (lv' := [(0, .ref (B + 1079))]) rfl ?_
    exact xb_X12_addNote_63 uk  h
  · replace h := uu_neg c1 h
    refine uu_aload_n dX12_addNote_22 rfl (List.mem_of_getElem? (i := 0) rfl) ?_
    refine uu_bipush (v := 40) dX12_addNote_23 (by decide) ?_
    refine uu_aload_n dX12_addNote_25 rfl (List.mem_of_getElem? (i := 0) rfl) ?_
    refine uu_geti (ci := 12) (N := 153) fX12_799 (by decide) so_1079.is (by decide) (by decide) dX12_addNote_26 ?_
    refine uu_imul dX12_addNote_29 ?_
    refine uu_iload_n dX12_addNote_30 rfl (List.mem_of_getElem? (i := 1) rfl) ?_
    refine uu_iadd dX12_addNote_31 ?_
    refine uu_bipush (v := 40) dX12_addNote_32 (by decide) ?_
    refine uu_aload_n dX12_addNote_34 rfl (List.mem_of_getElem? (i := 0) rfl) ?_
    refine uu_geti (ci := 12) (N := 153) fX12_799 (by decide) so_1079.is (by decide) (by decide) dX12_addNote_35 ?_
    refine uu_imul dX12_addNote_38 ?_
    refine uu_iload_n dX12_addNote_39 rfl (List.mem_of_getElem? (i := 1) rfl) ?_
    refine uu_iadd dX12_addNote_40 ?_
    refine uu_iconst (v := 1) dX12_addNote_41 (by decide) ?_
    refine uu_isub dX12_addNote_42 ?_
    obtain ⟨s4, e5, h⟩ := uu_ob h
    refine uu_cv (d1 := 1) (k := 1079) (ci := 12) (T := TX12) (N := 153) (As := [.int (((40 : Int32) * (s.I 1079 89)) + x1), .int ((((40 : Int32) * (s.I 1079 89)) + x1) - 1)]) (st := []) (st' := []) (xc_X12_moveNote uk  e5) so_1079.is (by decide) rfl kX12_moveNote lX12_894 sX12_moveNote (by decide) (Nat.le_of_ble_eq_true rfl) dX12_addNote_43 rfl ?_
    refine uu_iinc (v := x1 + 1) dX12_addNote_46 (k := 1) rfl rfl (by decide) rfl ?_
    refine uu_goto (tgt := 16) dX12_addNote_49 (by decide) ?_
    refine uu_lv [1, 0] (lv' := [(0, .ref (B + 1079)), (1, .int (x1 + 1))]) rfl ?_
    exact hK16 (x1 + 1) _ _ h
def fn_X12_addNote_16  : Nat → Int32 → uS → Option uS
  | 0 => fun _ _ => none
  | n + 1 => fb_X12_addNote_16 (fn_X12_addNote_16  n)
set_option maxRecDepth 100000 in
set_option maxHeartbeats 4000000 in
theorem xn_X12_addNote_16 {l : Launch} {D : va_G} {A : Nat → ClassId} {B : Nat} {Z : State → Heap → Prop} {vF : Value} (uk : uK B Z vF)   : ∀ (n : Nat) (x1 : Int32)  (s : uS) (r : uS), fn_X12_addNote_16  n x1 s = some r → GU l D A B Z mX12_addNote 2 (r, none) s 16 [(0, .ref (B + 1079)), (1, .int x1)] [] := by
  intro n
  induction n with
  | zero => intro x1 s r h
            cases h
  | succ n ih => intro x1 s r h
                 exact xb_X12_addNote_16 uk ih  h
def fn_X12_addNote  (s : uS) : Option uS := (iget 20 s 1129 (s.I 1079 89)).bind fun v1 => if v1 = 40 then (fn_X12_addNote_16 uFu 1 s) else (fb_X12_addNote_63 s)
set_option maxRecDepth 100000 in
set_option maxHeartbeats 4000000 in
theorem xc_X12_addNote {l : Launch} {D : va_G} {A : Nat → ClassId} {B : Nat} {Z : State → Heap → Prop} {vF : Value} (uk : uK B Z vF)  {s : uS} {r : uS}  (h : fn_X12_addNote  s = some r) : CU l D A B Z 2 mX12_addNote s [.ref (B + 1079)] (r, none) := by
  unfold fn_X12_addNote at h
  refine cu_of rfl uk.1.1 (Nat.le_of_ble_eq_true rfl) ?_
  show GU _ _ _ _ _ _ _ _ _ 0 [(0, .ref (B + 1079))] []
  refine uu_aload_n dX12_addNote_0 rfl (List.mem_of_getElem? (i := 0) rfl) ?_
  refine uu_geta (ci := 12) (N := 153) fX12_857 (by decide) so_1079.is (by decide) (c := 1129) (by decide) dX12_addNote_1 ?_
  refine uu_aload_n dX12_addNote_4 rfl (List.mem_of_getElem? (i := 0) rfl) ?_
  refine uu_geti (ci := 12) (N := 153) fX12_799 (by decide) so_1079.is (by decide) (by decide) dX12_addNote_5 ?_
  obtain ⟨v1, e2, h⟩ := uu_ob h
  refine uu_iald e2 dX12_addNote_8 ?_
  refine uu_bipush (v := 40) dX12_addNote_9 (by decide) ?_
  refine uu_icmp_ne (tgt := 63) dX12_addNote_11 (by decide) (fun c3 => ?_) (fun c3 => ?_)
  · replace h := uu_neg c3 h
    exact xb_X12_addNote_63 uk  h
  · replace h := uu_pos c3 h
    refine uu_iconst (v := 1) dX12_addNote_14 (by decide) ?_
    refine uu_istore_n dX12_addNote_15 rfl (by decide) rfl ?_
    refine uu_lv [1, 0] (lv' := [(0, .ref (B + 1079)), (1, .int 1)]) rfl ?_
    exact xn_X12_addNote_16 uk  _ _ _ _ h
abbrev mX12_write : hM := (yX12_write, cX12_write, 2, none)
theorem dX12_write_0 : decode cX12_write 0 = .ok (.aload_n 0, 1) := by decide +kernel
theorem dX12_write_1 : decode cX12_write 1 = .ok (.getfield 897, 3) := by decide +kernel
theorem dX12_write_4 : decode cX12_write 4 = .ok (.aload_n 0, 1) := by decide +kernel
theorem fX12_900 : h_fl RX12 900 12 112 RX12 TX12 153 := ⟨rfl, by decide, inX12, h_t12 73 rfl rfl⟩
theorem dX12_write_5 : decode cX12_write 5 = .ok (.getfield 900, 3) := by decide +kernel
theorem dX12_write_8 : decode cX12_write 8 = .ok (.iload_n 1, 1) := by decide +kernel
theorem dX12_write_9 : decode cX12_write 9 = .ok (.iastore, 1) := by decide +kernel
theorem dX12_write_10 : decode cX12_write 10 = .ok (.aload_n 0, 1) := by decide +kernel
theorem dX12_write_11 : decode cX12_write 11 = .ok (.aload_n 0, 1) := by decide +kernel
theorem dX12_write_12 : decode cX12_write 12 = .ok (.getfield 900, 3) := by decide +kernel
theorem dX12_write_15 : decode cX12_write 15 = .ok (.iconst 1, 1) := by decide +kernel
theorem dX12_write_16 : decode cX12_write 16 = .ok (.iadd, 1) := by decide +kernel
theorem dX12_write_17 : decode cX12_write 17 = .ok (.putfield 900, 3) := by decide +kernel
theorem dX12_write_20 : decode cX12_write 20 = .ok (.return_, 1) := by decide +kernel
def fn_X12_write (x1 : Int32) (s : uS) : Option uS := (iput 20 s 1143 (s.I 1079 112) x1).bind fun s1 => some (wI s1 1079 112 ((s1.I 1079 112) + 1))
set_option maxRecDepth 100000 in
set_option maxHeartbeats 4000000 in
theorem xc_X12_write {l : Launch} {D : va_G} {A : Nat → ClassId} {B : Nat} {Z : State → Heap → Prop} {vF : Value} (uk : uK B Z vF) {x1 : Int32} {s : uS} {r : uS}  (h : fn_X12_write x1 s = some r) : CU l D A B Z 0 mX12_write s [.ref (B + 1079), .int x1] (r, none) := by
  unfold fn_X12_write at h
  refine cu_of rfl uk.1.1 (Nat.le_of_ble_eq_true rfl) ?_
  show GU _ _ _ _ _ _ _ _ _ 0 [(0, .ref (B + 1079)), (1, .int x1)] []
  refine uu_aload_n dX12_write_0 rfl (List.mem_of_getElem? (i := 0) rfl) ?_
  refine uu_geta (ci := 12) (N := 153) fX12_897 (by decide) so_1079.is (by decide) (c := 1143) (by decide) dX12_write_1 ?_
  refine uu_aload_n dX12_write_4 rfl (List.mem_of_getElem? (i := 0) rfl) ?_
  refine uu_geti (ci := 12) (N := 153) fX12_900 (by decide) so_1079.is (by decide) (by decide) dX12_write_5 ?_
  refine uu_iload_n dX12_write_8 rfl (List.mem_of_getElem? (i := 1) rfl) ?_
  obtain ⟨s1, e2, h⟩ := uu_ob h
  refine uu_iast e2 dX12_write_9 ?_
  refine uu_aload_n dX12_write_10 rfl (List.mem_of_getElem? (i := 0) rfl) ?_
  refine uu_aload_n dX12_write_11 rfl (List.mem_of_getElem? (i := 0) rfl) ?_
  refine uu_geti (ci := 12) (N := 153) fX12_900 (by decide) so_1079.is (by decide) (by decide) dX12_write_12 ?_
  refine uu_iconst (v := 1) dX12_write_15 (by decide) ?_
  refine uu_iadd dX12_write_16 ?_
  refine uu_puti (ft := .int) (ci := 12) (N := 153) fX12_900 ptX12 (Or.inl rfl) (by decide) so_1079.is (by decide) (by decide) (by decide +kernel) rfl rfl dX12_write_17 ?_
  have hr := Option.some.inj h
  subst hr
  exact uu_vret rfl dX12_write_20
abbrev mX12_writeWord : hM := (yX12_writeWord, cX12_writeWord, 3, none)
theorem dX12_writeWord_2 : decode cX12_writeWord 2 = .ok (.iload_n 2, 1) := by decide +kernel
theorem dX12_writeWord_3 : decode cX12_writeWord 3 = .ok (.aload_n 1, 1) := by decide +kernel
theorem dX12_writeWord_4 : decode cX12_writeWord 4 = .ok (.invokevirtual 58, 3) := by decide +kernel
theorem dX12_writeWord_7 : decode cX12_writeWord 7 = .ok (.if_icmp .ge 18, 3) := by decide +kernel
theorem dX12_writeWord_25 : decode cX12_writeWord 25 = .ok (.return_, 1) := by decide +kernel
theorem dX12_writeWord_10 : decode cX12_writeWord 10 = .ok (.aload_n 0, 1) := by decide +kernel
theorem dX12_writeWord_11 : decode cX12_writeWord 11 = .ok (.aload_n 1, 1) := by decide +kernel
theorem dX12_writeWord_12 : decode cX12_writeWord 12 = .ok (.iload_n 2, 1) := by decide +kernel
theorem dX12_writeWord_13 : decode cX12_writeWord 13 = .ok (.invokevirtual 64, 3) := by decide +kernel
theorem kX12_write : h_ml mX12_write 1 := ⟨h_t10 108 rfl rfl, h_t1 16 rfl rfl, ⟨by decide, by decide, by decide +kernel⟩, by decide⟩
theorem lX12_903 : Cond.methodLink RX12 903 mX12_write.1 ∈ lw_g := h_t10 105 rfl rfl
theorem sX12_write : Cond.instanceMethod mX12_write.1 ∈ lw_g ∧ Cond.selects mX12_write.1.cls mX12_write.1 mX12_write.1 ∈ lw_g := ⟨h_t10 107 rfl rfl, h_ins 221 rfl⟩
theorem dX12_writeWord_16 : decode cX12_writeWord 16 = .ok (.invokevirtual 903, 3) := by decide +kernel
theorem dX12_writeWord_19 : decode cX12_writeWord 19 = .ok (.iinc 2 1, 3) := by decide +kernel
theorem dX12_writeWord_22 : decode cX12_writeWord 22 = .ok (.goto (-20), 3) := by decide +kernel
theorem dX12_writeWord_0 : decode cX12_writeWord 0 = .ok (.iconst 0, 1) := by decide +kernel
theorem dX12_writeWord_1 : decode cX12_writeWord 1 = .ok (.istore_n 2, 1) := by decide +kernel
def fb_X12_writeWord_2 (K2 : List Nat → Int32 → uS → Option uS) (w1 : List Nat) (x2 : Int32) (s : uS) : Option uS := if (nI w1.length) ≤ x2 then (some s) else ((stget w1 x2).bind fun v2 => (fn_X12_write v2 s).bind fun s4 => K2 w1 (x2 + 1) s4)
set_option maxRecDepth 100000 in
set_option maxHeartbeats 4000000 in
theorem xb_X12_writeWord_2 {l : Launch} {D : va_G} {A : Nat → ClassId} {B : Nat} {Z : State → Heap → Prop} {vF : Value} (uk : uK B Z vF) {K2 : List Nat → Int32 → uS → Option uS} (hK2 : ∀ (w1 : List Nat) (x2 : Int32) {qw1 pw1 : Nat} (hw1 : uStr B Z qw1 pw1 w1) (s : uS) (r : uS), K2 w1 x2 s = some r → GU l D A B Z mX12_writeWord 4 (r, none) s 2 [(0, .ref (B + 1079)), (1, .ref qw1), (2, .int x2)] []) {w1 : List Nat} {x2 : Int32} {s : uS} {r : uS} {qw1 pw1 : Nat} (hw1 : uStr B Z qw1 pw1 w1) (h : fb_X12_writeWord_2 K2 w1 x2 s = some r) : GU l D A B Z mX12_writeWord 4 (r, none) s 2 [(0, .ref (B + 1079)), (1, .ref qw1), (2, .int x2)] [] := by
  unfold fb_X12_writeWord_2 at h
  refine uu_iload_n dX12_writeWord_2 rfl (List.mem_of_getElem? (i := 2) rfl) ?_
  refine uu_aload_n dX12_writeWord_3 rfl (List.mem_of_getElem? (i := 1) rfl) ?_
  refine uu_slen uk hw1 lX12_58 (by decide) (Nat.le_of_ble_eq_true rfl) dX12_writeWord_4 ?_
  refine uu_icmp_ge (tgt := 25) dX12_writeWord_7 (by decide) (fun c1 => ?_) (fun c1 => ?_)
  · replace h := uu_pos c1 h
    have hr := Option.some.inj h
    subst hr
    exact uu_vret rfl dX12_writeWord_25
  · replace h := uu_neg c1 h
    refine uu_aload_n dX12_writeWord_10 rfl (List.mem_of_getElem? (i := 0) rfl) ?_
    refine uu_aload_n dX12_writeWord_11 rfl (List.mem_of_getElem? (i := 1) rfl) ?_
    refine uu_iload_n dX12_writeWord_12 rfl (List.mem_of_getElem? (i := 2) rfl) ?_
    obtain ⟨v2, e3, h⟩ := uu_ob h
    refine uu_sch uk hw1 e3 lX12_64 (by decide) (Nat.le_of_ble_eq_true rfl) dX12_writeWord_13 ?_
    obtain ⟨s4, e5, h⟩ := uu_ob h
    refine uu_cv (d1 := 0) (k := 1079) (ci := 12) (T := TX12) (N := 153) (As := [.int v2]) (st := []) (st' := []) (xc_X12_write uk  e5) so_1079.is (by decide) rfl kX12_write lX12_903 sX12_write (by decide) (Nat.le_of_ble_eq_true rfl) dX12_writeWord_16 rfl ?_
    refine uu_iinc (v := x2 + 1) dX12_writeWord_19 (k := 2) rfl rfl (by decide) rfl ?_
    refine uu_goto (tgt := 2) dX12_writeWord_22 (by decide) ?_
    refine uu_lv [1, 2, 0] (lv' := [(0, .ref (B + 1079)), (1, .ref qw1), (2, .int (x2 + 1))]) rfl ?_
    exact hK2 w1 (x2 + 1) hw1 _ _ h
def fn_X12_writeWord_2  : Nat → List Nat → Int32 → uS → Option uS
  | 0 => fun _ _ _ => none
  | n + 1 => fb_X12_writeWord_2 (fn_X12_writeWord_2  n)
set_option maxRecDepth 100000 in
set_option maxHeartbeats 4000000 in
theorem xn_X12_writeWord_2 {l : Launch} {D : va_G} {A : Nat → ClassId} {B : Nat} {Z : State → Heap → Prop} {vF : Value} (uk : uK B Z vF)   : ∀ (n : Nat) (w1 : List Nat) (x2 : Int32) {qw1 pw1 : Nat} (hw1 : uStr B Z qw1 pw1 w1) (s : uS) (r : uS), fn_X12_writeWord_2  n w1 x2 s = some r → GU l D A B Z mX12_writeWord 4 (r, none) s 2 [(0, .ref (B + 1079)), (1, .ref qw1), (2, .int x2)] [] := by
  intro n
  induction n with
  | zero => intro w1 x2 qw1 pw1 hw1 s r h
            cases h
  | succ n ih => intro w1 x2 qw1 pw1 hw1 s r h
                 exact xb_X12_writeWord_2 uk ih hw1 h
def fn_X12_writeWord (w1 : List Nat) (s : uS) : Option uS := fn_X12_writeWord_2 uFu w1 0 s
set_option maxRecDepth 100000 in
set_option maxHeartbeats 4000000 in
theorem xc_X12_writeWord {l : Launch} {D : va_G} {A : Nat → ClassId} {B : Nat} {Z : State → Heap → Prop} {vF : Value} (uk : uK B Z vF) {w1 : List Nat} {s : uS} {r : uS} {qw1 pw1 : Nat} (hw1 : uStr B Z qw1 pw1 w1) (h : fn_X12_writeWord w1 s = some r) : CU l D A B Z 4 mX12_writeWord s [.ref (B + 1079), .ref qw1] (r, none) := by
  unfold fn_X12_writeWord at h
  refine cu_of rfl uk.1.1 (Nat.le_of_ble_eq_true rfl) ?_
  show GU _ _ _ _ _ _ _ _ _ 0 [(0, .ref (B + 1079)), (1, .ref qw1)] []
  refine uu_iconst (v := 0) dX12_writeWord_0 (by decide) ?_
  refine uu_istore_n dX12_writeWord_1 rfl (by decide) rfl ?_
  refine uu_lv [1, 2, 0] (lv' := [(0, .ref (B + 1079)), (1, .ref qw1), (2, .int 0)]) rfl ?_
  exact xn_X12_writeWord_2 uk  _ _ _ hw1 _ _ h
abbrev mX12_writeString : hM := (yX12_writeString, cX12_writeString, 3, none)
theorem dX12_writeString_2 : decode cX12_writeString 2 = .ok (.iload_n 2, 1) := by decide +kernel
theorem dX12_writeString_3 : decode cX12_writeString 3 = .ok (.aload_n 0, 1) := by decide +kernel
theorem dX12_writeString_4 : decode cX12_writeString 4 = .ok (.getfield 346, 3) := by decide +kernel
theorem dX12_writeString_7 : decode cX12_writeString 7 = .ok (.iload_n 1, 1) := by decide +kernel
theorem dX12_writeString_8 : decode cX12_writeString 8 = .ok (.iaload, 1) := by decide +kernel
theorem dX12_writeString_9 : decode cX12_writeString 9 = .ok (.if_icmp .ge 26, 3) := by decide +kernel
theorem dX12_writeString_35 : decode cX12_writeString 35 = .ok (.return_, 1) := by decide +kernel
theorem dX12_writeString_12 : decode cX12_writeString 12 = .ok (.aload_n 0, 1) := by decide +kernel
theorem dX12_writeString_13 : decode cX12_writeString 13 = .ok (.aload_n 0, 1) := by decide +kernel
theorem dX12_writeString_14 : decode cX12_writeString 14 = .ok (.getfield 260, 3) := by decide +kernel
theorem dX12_writeString_17 : decode cX12_writeString 17 = .ok (.aload_n 0, 1) := by decide +kernel
theorem dX12_writeString_18 : decode cX12_writeString 18 = .ok (.getfield 343, 3) := by decide +kernel
theorem dX12_writeString_21 : decode cX12_writeString 21 = .ok (.iload_n 1, 1) := by decide +kernel
theorem dX12_writeString_22 : decode cX12_writeString 22 = .ok (.iaload, 1) := by decide +kernel
theorem dX12_writeString_23 : decode cX12_writeString 23 = .ok (.iload_n 2, 1) := by decide +kernel
theorem dX12_writeString_24 : decode cX12_writeString 24 = .ok (.iadd, 1) := by decide +kernel
theorem dX12_writeString_25 : decode cX12_writeString 25 = .ok (.iaload, 1) := by decide +kernel
theorem dX12_writeString_26 : decode cX12_writeString 26 = .ok (.invokevirtual 903, 3) := by decide +kernel
theorem dX12_writeString_29 : decode cX12_writeString 29 = .ok (.iinc 2 1, 3) := by decide +kernel
theorem dX12_writeString_32 : decode cX12_writeString 32 = .ok (.goto (-30), 3) := by decide +kernel
theorem dX12_writeString_0 : decode cX12_writeString 0 = .ok (.iconst 0, 1) := by decide +kernel
theorem dX12_writeString_1 : decode cX12_writeString 1 = .ok (.istore_n 2, 1) := by decide +kernel
def fb_X12_writeString_2 (K2 : Int32 → Int32 → uS → Option uS) (x1 : Int32) (x2 : Int32) (s : uS) : Option uS := (iget 20 s 1117 x1).bind fun v1 => if v1 ≤ x2 then (some s) else ((iget 20 s 1116 x1).bind fun v4 => (iget 20 s 1097 (v4 + x2)).bind fun v6 => (fn_X12_write v6 s).bind fun s8 => K2 x1 (x2 + 1) s8)
set_option maxRecDepth 100000 in
set_option maxHeartbeats 4000000 in
theorem xb_X12_writeString_2 {l : Launch} {D : va_G} {A : Nat → ClassId} {B : Nat} {Z : State → Heap → Prop} {vF : Value} (uk : uK B Z vF) {K2 : Int32 → Int32 → uS → Option uS} (hK2 : ∀ (x1 : Int32) (x2 : Int32)  (s : uS) (r : uS), K2 x1 x2 s = some r → GU l D A B Z mX12_writeString 1 (r, none) s 2 [(0, .ref (B + 1079)), (1, .int x1), (2, .int x2)] []) {x1 : Int32} {x2 : Int32} {s : uS} {r : uS}  (h : fb_X12_writeString_2 K2 x1 x2 s = some r) : GU l D A B Z mX12_writeString 1 (r, none) s 2 [(0, .ref (B + 1079)), (1, .int x1), (2, .int x2)] [] := by
  unfold fb_X12_writeString_2 at h
  refine uu_iload_n dX12_writeString_2 rfl (List.mem_of_getElem? (i := 2) rfl) ?_
  refine uu_aload_n dX12_writeString_3 rfl (List.mem_of_getElem? (i := 0) rfl) ?_
  refine uu_geta (ci := 12) (N := 153) fX12_346 (by decide) so_1079.is (by decide) (c := 1117) (by decide) dX12_writeString_4 ?_
  refine uu_iload_n dX12_writeString_7 rfl (List.mem_of_getElem? (i := 1) rfl) ?_
  obtain ⟨v1, e2, h⟩ := uu_ob h
  refine uu_iald e2 dX12_writeString_8 ?_
  refine uu_icmp_ge (tgt := 35) dX12_writeString_9 (by decide) (fun c3 => ?_) (fun c3 => ?_)
  · replace h := uu_pos c3 h
    have hr := Option.some.inj h
    subst hr
    exact uu_vret rfl dX12_writeString_35
  · replace h := uu_neg c3 h
    refine uu_aload_n dX12_writeString_12 rfl (List.mem_of_getElem? (i := 0) rfl) ?_
    refine uu_aload_n dX12_writeString_13 rfl (List.mem_of_getElem? (i := 0) rfl) ?_
    refine uu_geta (ci := 12) (N := 153) fX12_260 (by decide) so_1079.is (by decide) (c := 1097) (by decide) dX12_writeString_14 ?_
    refine uu_aload_n dX12_writeString_17 rfl (List.mem_of_getElem? (i := 0) rfl) ?_
    refine uu_geta (ci := 12) (N := 153) fX12_343 (by decide) so_1079.is (by decide) (c := 1116) (by decide) dX12_writeString_18 ?_
    refine uu_iload_n dX12_writeString_21 rfl (List.mem_of_getElem? (i := 1) rfl) ?_
    obtain ⟨v4, e5, h⟩ := uu_ob h
    refine uu_iald e5 dX12_writeString_22 ?_
    refine uu_iload_n dX12_writeString_23 rfl (List.mem_of_getElem? (i := 2) rfl) ?_
    refine uu_iadd dX12_writeString_24 ?_
    obtain ⟨v6, e7, h⟩ := uu_ob h
    refine uu_iald e7 dX12_writeString_25 ?_
    obtain ⟨s8, e9, h⟩ := uu_ob h
    refine uu_cv (d1 := 0) (k := 1079) (ci := 12) (T := TX12) (N := 153) (As := [.int v6]) (st := []) (st' := []) (xc_X12_write uk  e9) so_1079.is (by decide) rfl kX12_write lX12_903 sX12_write (by decide) (Nat.le_of_ble_eq_true rfl) dX12_writeString_26 rfl ?_
    refine uu_iinc (v := x2 + 1) dX12_writeString_29 (k := 2) rfl rfl (by decide) rfl ?_
    refine uu_goto (tgt := 2) dX12_writeString_32 (by decide) ?_
    refine uu_lv [1, 2, 0] (lv' := [(0, .ref (B + 1079)), (1, .int x1), (2, .int (x2 + 1))]) rfl ?_
    exact hK2 x1 (x2 + 1) _ _ h
def fn_X12_writeString_2  : Nat → Int32 → Int32 → uS → Option uS
  | 0 => fun _ _ _ => none
  | n + 1 => fb_X12_writeString_2 (fn_X12_writeString_2  n)
set_option maxRecDepth 100000 in
set_option maxHeartbeats 4000000 in
theorem xn_X12_writeString_2 {l : Launch} {D : va_G} {A : Nat → ClassId} {B : Nat} {Z : State → Heap → Prop} {vF : Value} (uk : uK B Z vF)   : ∀ (n : Nat) (x1 : Int32) (x2 : Int32)  (s : uS) (r : uS), fn_X12_writeString_2  n x1 x2 s = some r → GU l D A B Z mX12_writeString 1 (r, none) s 2 [(0, .ref (B + 1079)), (1, .int x1), (2, .int x2)] [] := by
  intro n
  induction n with
  | zero => intro x1 x2 s r h
            cases h
  | succ n ih => intro x1 x2 s r h
                 exact xb_X12_writeString_2 uk ih  h
def fn_X12_writeString (x1 : Int32) (s : uS) : Option uS := fn_X12_writeString_2 uFu x1 0 s
set_option maxRecDepth 100000 in
set_option maxHeartbeats 4000000 in
theorem xc_X12_writeString {l : Launch} {D : va_G} {A : Nat → ClassId} {B : Nat} {Z : State → Heap → Prop} {vF : Value} (uk : uK B Z vF) {x1 : Int32} {s : uS} {r : uS}  (h : fn_X12_writeString x1 s = some r) : CU l D A B Z 1 mX12_writeString s [.ref (B + 1079), .int x1] (r, none) := by
  unfold fn_X12_writeString at h
  refine cu_of rfl uk.1.1 (Nat.le_of_ble_eq_true rfl) ?_
  show GU _ _ _ _ _ _ _ _ _ 0 [(0, .ref (B + 1079)), (1, .int x1)] []
  refine uu_iconst (v := 0) dX12_writeString_0 (by decide) ?_
  refine uu_istore_n dX12_writeString_1 rfl (by decide) rfl ?_
  refine uu_lv [1, 2, 0] (lv' := [(0, .ref (B + 1079)), (1, .int x1), (2, .int 0)]) rfl ?_
  exact xn_X12_writeString_2 uk  _ _ _ _ _ h
abbrev mX12_writeEnd : hM := (yX12_writeEnd, cX12_writeEnd, 1, none)
theorem dX12_writeEnd_0 : decode cX12_writeEnd 0 = .ok (.aload_n 0, 1) := by decide +kernel
theorem dX12_writeEnd_1 : decode cX12_writeEnd 1 = .ok (.bipush 13, 2) := by decide +kernel
theorem dX12_writeEnd_3 : decode cX12_writeEnd 3 = .ok (.invokevirtual 903, 3) := by decide +kernel
theorem dX12_writeEnd_6 : decode cX12_writeEnd 6 = .ok (.aload_n 0, 1) := by decide +kernel
theorem dX12_writeEnd_7 : decode cX12_writeEnd 7 = .ok (.bipush 10, 2) := by decide +kernel
theorem dX12_writeEnd_9 : decode cX12_writeEnd 9 = .ok (.invokevirtual 903, 3) := by decide +kernel
theorem dX12_writeEnd_12 : decode cX12_writeEnd 12 = .ok (.return_, 1) := by decide +kernel
def fn_X12_writeEnd  (s : uS) : Option uS := (fn_X12_write 13 s).bind fun s1 => (fn_X12_write 10 s1).bind fun s3 => some s3
set_option maxRecDepth 100000 in
set_option maxHeartbeats 4000000 in
theorem xc_X12_writeEnd {l : Launch} {D : va_G} {A : Nat → ClassId} {B : Nat} {Z : State → Heap → Prop} {vF : Value} (uk : uK B Z vF)  {s : uS} {r : uS}  (h : fn_X12_writeEnd  s = some r) : CU l D A B Z 1 mX12_writeEnd s [.ref (B + 1079)] (r, none) := by
  unfold fn_X12_writeEnd at h
  refine cu_of rfl uk.1.1 (Nat.le_of_ble_eq_true rfl) ?_
  show GU _ _ _ _ _ _ _ _ _ 0 [(0, .ref (B + 1079))] []
  refine uu_aload_n dX12_writeEnd_0 rfl (List.mem_of_getElem? (i := 0) rfl) ?_
  refine uu_bipush (v := 13) dX12_writeEnd_1 (by decide) ?_
  obtain ⟨s1, e2, h⟩ := uu_ob h
  refine uu_cv (d1 := 0) (k := 1079) (ci := 12) (T := TX12) (N := 153) (As := [.int 13]) (st := []) (st' := []) (xc_X12_write uk  e2) so_1079.is (by decide) rfl kX12_write lX12_903 sX12_write (by decide) (Nat.le_of_ble_eq_true rfl) dX12_writeEnd_3 rfl ?_
  refine uu_aload_n dX12_writeEnd_6 rfl (List.mem_of_getElem? (i := 0) rfl) ?_
  refine uu_bipush (v := 10) dX12_writeEnd_7 (by decide) ?_
  obtain ⟨s3, e4, h⟩ := uu_ob h
  refine uu_cv (d1 := 0) (k := 1079) (ci := 12) (T := TX12) (N := 153) (As := [.int 10]) (st := []) (st' := []) (xc_X12_write uk  e4) so_1079.is (by decide) rfl kX12_write lX12_903 sX12_write (by decide) (Nat.le_of_ble_eq_true rfl) dX12_writeEnd_9 rfl ?_
  have hr := Option.some.inj h
  subst hr
  exact uu_vret rfl dX12_writeEnd_12
abbrev mX12_writeSubject : hM := (yX12_writeSubject, cX12_writeSubject, 3, none)
theorem dX12_writeSubject_30 : decode cX12_writeSubject 30 = .ok (.iload_n 2, 1) := by decide +kernel
theorem dX12_writeSubject_31 : decode cX12_writeSubject 31 = .ok (.aload_n 0, 1) := by decide +kernel
theorem dX12_writeSubject_32 : decode cX12_writeSubject 32 = .ok (.getfield 107, 3) := by decide +kernel
theorem dX12_writeSubject_35 : decode cX12_writeSubject 35 = .ok (.iload_n 1, 1) := by decide +kernel
theorem dX12_writeSubject_36 : decode cX12_writeSubject 36 = .ok (.iaload, 1) := by decide +kernel
theorem dX12_writeSubject_37 : decode cX12_writeSubject 37 = .ok (.if_icmp .ge 26, 3) := by decide +kernel
theorem dX12_writeSubject_63 : decode cX12_writeSubject 63 = .ok (.return_, 1) := by decide +kernel
theorem dX12_writeSubject_40 : decode cX12_writeSubject 40 = .ok (.aload_n 0, 1) := by decide +kernel
theorem dX12_writeSubject_41 : decode cX12_writeSubject 41 = .ok (.aload_n 0, 1) := by decide +kernel
theorem dX12_writeSubject_42 : decode cX12_writeSubject 42 = .ok (.getfield 101, 3) := by decide +kernel
theorem dX12_writeSubject_45 : decode cX12_writeSubject 45 = .ok (.aload_n 0, 1) := by decide +kernel
theorem dX12_writeSubject_46 : decode cX12_writeSubject 46 = .ok (.getfield 98, 3) := by decide +kernel
theorem dX12_writeSubject_49 : decode cX12_writeSubject 49 = .ok (.iload_n 1, 1) := by decide +kernel
theorem dX12_writeSubject_50 : decode cX12_writeSubject 50 = .ok (.iaload, 1) := by decide +kernel
theorem dX12_writeSubject_51 : decode cX12_writeSubject 51 = .ok (.iload_n 2, 1) := by decide +kernel
theorem dX12_writeSubject_52 : decode cX12_writeSubject 52 = .ok (.iadd, 1) := by decide +kernel
theorem dX12_writeSubject_53 : decode cX12_writeSubject 53 = .ok (.iaload, 1) := by decide +kernel
theorem dX12_writeSubject_54 : decode cX12_writeSubject 54 = .ok (.invokevirtual 903, 3) := by decide +kernel
theorem dX12_writeSubject_57 : decode cX12_writeSubject 57 = .ok (.iinc 2 1, 3) := by decide +kernel
theorem dX12_writeSubject_60 : decode cX12_writeSubject 60 = .ok (.goto (-30), 3) := by decide +kernel
theorem dX12_writeSubject_2 : decode cX12_writeSubject 2 = .ok (.iload_n 1, 1) := by decide +kernel
theorem dX12_writeSubject_3 : decode cX12_writeSubject 3 = .ok (.aload_n 0, 1) := by decide +kernel
theorem dX12_writeSubject_4 : decode cX12_writeSubject 4 = .ok (.getfield 85, 3) := by decide +kernel
theorem dX12_writeSubject_7 : decode cX12_writeSubject 7 = .ok (.if_icmp .ge 63, 3) := by decide +kernel
theorem dX12_writeSubject_70 : decode cX12_writeSubject 70 = .ok (.return_, 1) := by decide +kernel
theorem dX12_writeSubject_10 : decode cX12_writeSubject 10 = .ok (.aload_n 0, 1) := by decide +kernel
theorem dX12_writeSubject_11 : decode cX12_writeSubject 11 = .ok (.iload_n 1, 1) := by decide +kernel
theorem dX12_writeSubject_12 : decode cX12_writeSubject 12 = .ok (.invokevirtual 811, 3) := by decide +kernel
theorem dX12_writeSubject_15 : decode cX12_writeSubject 15 = .ok (.aload_n 0, 1) := by decide +kernel
theorem dX12_writeSubject_16 : decode cX12_writeSubject 16 = .ok (.ldc_w 474, 3) := by decide +kernel
theorem dX12_writeSubject_19 : decode cX12_writeSubject 19 = .ok (.invokevirtual 158, 3) := by decide +kernel
theorem dX12_writeSubject_22 : decode cX12_writeSubject 22 = .ok (.ifCond .ne 6, 3) := by decide +kernel
theorem dX12_writeSubject_28 : decode cX12_writeSubject 28 = .ok (.iconst 0, 1) := by decide +kernel
theorem dX12_writeSubject_29 : decode cX12_writeSubject 29 = .ok (.istore_n 2, 1) := by decide +kernel
theorem dX12_writeSubject_25 : decode cX12_writeSubject 25 = .ok (.goto 39, 3) := by decide +kernel
theorem dX12_writeSubject_64 : decode cX12_writeSubject 64 = .ok (.iinc 1 1, 3) := by decide +kernel
theorem dX12_writeSubject_67 : decode cX12_writeSubject 67 = .ok (.goto (-65), 3) := by decide +kernel
theorem dX12_writeSubject_0 : decode cX12_writeSubject 0 = .ok (.iconst 0, 1) := by decide +kernel
theorem dX12_writeSubject_1 : decode cX12_writeSubject 1 = .ok (.istore_n 1, 1) := by decide +kernel
def fb_X12_writeSubject_30 (K30 : Int32 → Int32 → uS → Option uS) (x1 : Int32) (x2 : Int32) (s : uS) : Option uS := (iget 20 s 1091 x1).bind fun v1 => if v1 ≤ x2 then (some s) else ((iget 20 s 1090 x1).bind fun v4 => (iget 20 s 1092 (v4 + x2)).bind fun v6 => (fn_X12_write v6 s).bind fun s8 => K30 x1 (x2 + 1) s8)
set_option maxRecDepth 100000 in
set_option maxHeartbeats 4000000 in
theorem xb_X12_writeSubject_30 {l : Launch} {D : va_G} {A : Nat → ClassId} {B : Nat} {Z : State → Heap → Prop} {vF : Value} (uk : uK B Z vF) {K30 : Int32 → Int32 → uS → Option uS} (hK30 : ∀ (x1 : Int32) (x2 : Int32)  (s : uS) (r : uS), K30 x1 x2 s = some r → GU l D A B Z mX12_writeSubject 6 (r, none) s 30 [(0, .ref (B + 1079)), (1, .int x1), (2, .int x2)] []) {x1 : Int32} {x2 : Int32} {s : uS} {r : uS}  (h : fb_X12_writeSubject_30 K30 x1 x2 s = some r) : GU l D A B Z mX12_writeSubject 6 (r, none) s 30 [(0, .ref (B + 1079)), (1, .int x1), (2, .int x2)] [] := by
  unfold fb_X12_writeSubject_30 at h
  refine uu_iload_n dX12_writeSubject_30 rfl (List.mem_of_getElem? (i := 2) rfl) ?_
  refine uu_aload_n dX12_writeSubject_31 rfl (List.mem_of_getElem? (i := 0) rfl) ?_
  refine uu_geta (ci := 12) (N := 153) fX12_107 (by decide) so_1079.is (by decide) (c := 1091) (by decide) dX12_writeSubject_32 ?_
  refine uu_iload_n dX12_writeSubject_35 rfl (List.mem_of_getElem? (i := 1) rfl) ?_
  obtain ⟨v1, e2, h⟩ := uu_ob h
  refine uu_iald e2 dX12_writeSubject_36 ?_
  refine uu_icmp_ge (tgt := 63) dX12_writeSubject_37 (by decide) (fun c3 => ?_) (fun c3 => ?_)
  · replace h := uu_pos c3 h
    have hr := Option.some.inj h
    subst hr
    exact uu_vret rfl dX12_writeSubject_63
  · replace h := uu_neg c3 h
    refine uu_aload_n dX12_writeSubject_40 rfl (List.mem_of_getElem? (i := 0) rfl) ?_
    refine uu_aload_n dX12_writeSubject_41 rfl (List.mem_of_getElem? (i := 0) rfl) ?_
    refine uu_geta (ci := 12) (N := 153) fX12_101 (by decide) so_1079.is (by decide) (c := 1092) (by decide) dX12_writeSubject_42 ?_
    refine uu_aload_n dX12_writeSubject_45 rfl (List.mem_of_getElem? (i := 0) rfl) ?_
    refine uu_geta (ci := 12) (N := 153) fX12_98 (by decide) so_1079.is (by decide) (c := 1090) (by decide) dX12_writeSubject_46 ?_
    refine uu_iload_n dX12_writeSubject_49 rfl (List.mem_of_getElem? (i := 1) rfl) ?_
    obtain ⟨v4, e5, h⟩ := uu_ob h
    refine uu_iald e5 dX12_writeSubject_50 ?_
    refine uu_iload_n dX12_writeSubject_51 rfl (List.mem_of_getElem? (i := 2) rfl) ?_
    refine uu_iadd dX12_writeSubject_52 ?_
    obtain ⟨v6, e7, h⟩ := uu_ob h
    refine uu_iald e7 dX12_writeSubject_53 ?_
    obtain ⟨s8, e9, h⟩ := uu_ob h
    refine uu_cv (d1 := 0) (k := 1079) (ci := 12) (T := TX12) (N := 153) (As := [.int v6]) (st := []) (st' := []) (xc_X12_write uk  e9) so_1079.is (by decide) rfl kX12_write lX12_903 sX12_write (by decide) (Nat.le_of_ble_eq_true rfl) dX12_writeSubject_54 rfl ?_
    refine uu_iinc (v := x2 + 1) dX12_writeSubject_57 (k := 2) rfl rfl (by decide) rfl ?_
    refine uu_goto (tgt := 30) dX12_writeSubject_60 (by decide) ?_
    refine uu_lv [1, 2, 0] (lv' := [(0, .ref (B + 1079)), (1, .int x1), (2, .int (x2 + 1))]) rfl ?_
    exact hK30 x1 (x2 + 1) _ _ h
def fn_X12_writeSubject_30  : Nat → Int32 → Int32 → uS → Option uS
  | 0 => fun _ _ _ => none
  | n + 1 => fb_X12_writeSubject_30 (fn_X12_writeSubject_30  n)
set_option maxRecDepth 100000 in
set_option maxHeartbeats 4000000 in
theorem xn_X12_writeSubject_30 {l : Launch} {D : va_G} {A : Nat → ClassId} {B : Nat} {Z : State → Heap → Prop} {vF : Value} (uk : uK B Z vF)   : ∀ (n : Nat) (x1 : Int32) (x2 : Int32)  (s : uS) (r : uS), fn_X12_writeSubject_30  n x1 x2 s = some r → GU l D A B Z mX12_writeSubject 6 (r, none) s 30 [(0, .ref (B + 1079)), (1, .int x1), (2, .int x2)] [] := by
  intro n
  induction n with
  | zero => intro x1 x2 s r h
            cases h
  | succ n ih => intro x1 x2 s r h
                 exact xb_X12_writeSubject_30 uk ih  h
def fb_X12_writeSubject_2 (K2 : Int32 → uS → Option uS) (x1 : Int32) (s : uS) : Option uS := if (s.I 1079 14) ≤ x1 then (some s) else ((fn_X12_oneName x1 s).bind fun s2 => (fn_X12_oneIs kW_97 s2).bind fun r5 => if r5.2 = true then (fn_X12_writeSubject_30 uFu x1 0 r5.1) else (K2 (x1 + 1) r5.1))
set_option maxRecDepth 100000 in
set_option maxHeartbeats 4000000 in
theorem xb_X12_writeSubject_2 {l : Launch} {D : va_G} {A : Nat → ClassId} {B : Nat} {Z : State → Heap → Prop} {vF : Value} (uk : uK B Z vF) {K2 : Int32 → uS → Option uS} (hK2 : ∀ (x1 : Int32)  (s : uS) (r : uS), K2 x1 s = some r → GU l D A B Z mX12_writeSubject 6 (r, none) s 2 [(0, .ref (B + 1079)), (1, .int x1)] []) {x1 : Int32} {s : uS} {r : uS}  (h : fb_X12_writeSubject_2 K2 x1 s = some r) : GU l D A B Z mX12_writeSubject 6 (r, none) s 2 [(0, .ref (B + 1079)), (1, .int x1)] [] := by
  unfold fb_X12_writeSubject_2 at h
  refine uu_iload_n dX12_writeSubject_2 rfl (List.mem_of_getElem? (i := 1) rfl) ?_
  refine uu_aload_n dX12_writeSubject_3 rfl (List.mem_of_getElem? (i := 0) rfl) ?_
  refine uu_geti (ci := 12) (N := 153) fX12_85 (by decide) so_1079.is (by decide) (by decide) dX12_writeSubject_4 ?_
  refine uu_icmp_ge (tgt := 70) dX12_writeSubject_7 (by decide) (fun c1 => ?_) (fun c1 => ?_)
  · replace h := uu_pos c1 h
    have hr := Option.some.inj h
    subst hr
    exact uu_vret rfl dX12_writeSubject_70
  · replace h := uu_neg c1 h
    refine uu_aload_n dX12_writeSubject_10 rfl (List.mem_of_getElem? (i := 0) rfl) ?_
    refine uu_iload_n dX12_writeSubject_11 rfl (List.mem_of_getElem? (i := 1) rfl) ?_
    obtain ⟨s2, e3, h⟩ := uu_ob h
    refine uu_cv (d1 := 0) (k := 1079) (ci := 12) (T := TX12) (N := 153) (As := [.int x1]) (st := []) (st' := []) (xc_X12_oneName uk  e3) so_1079.is (by decide) rfl kX12_oneName lX12_811 sX12_oneName (by decide) (Nat.le_of_ble_eq_true rfl) dX12_writeSubject_12 rfl ?_
    refine uu_aload_n dX12_writeSubject_15 rfl (List.mem_of_getElem? (i := 0) rfl) ?_
    obtain ⟨cq4, cp4, cv4, cw4⟩ := uk.2.1 97 _ rfl
    refine uu_ldcwS cv4 dX12_writeSubject_16 ?_
    obtain ⟨r5, e6, h⟩ := uu_ob h
    refine uu_cv (d1 := 5) (k := 1079) (ci := 12) (T := TX12) (N := 153) (As := [.ref cq4]) (st := []) (st' := [.int (bI r5.2)]) (xc_X12_oneIs uk cw4 e6) so_1079.is (by decide) rfl kX12_oneIs lX12_158 sX12_oneIs (by decide) (Nat.le_of_ble_eq_true rfl) dX12_writeSubject_19 rfl ?_
    refine uu_ifb_ne (tgt := 28) dX12_writeSubject_22 (by decide) (fun c7 => ?_) (fun c7 => ?_)
    · replace h := uu_pos c7 h
      refine uu_iconst (v := 0) dX12_writeSubject_28 (by decide) ?_
      refine uu_istore_n dX12_writeSubject_29 rfl (by decide) rfl ?_
      refine uu_lv [1, 2, 0] (lv' := [(0, .ref (B + 1079)), (1, .int x1), (2, .int 0)]) rfl ?_
      exact xn_X12_writeSubject_30 uk  _ _ _ _ _ h
    · replace h := uu_neg c7 h
      refine uu_goto (tgt := 64) dX12_writeSubject_25 (by decide) ?_
      refine uu_iinc (v := x1 + 1) dX12_writeSubject_64 (k := 1) rfl rfl (by decide) rfl ?_
      refine uu_goto (tgt := 2) dX12_writeSubject_67 (by decide) ?_
      refine uu_lv [1, 0] (lv' := [(0, .ref (B + 1079)), (1, .int (x1 + 1))]) rfl ?_
      exact hK2 (x1 + 1) _ _ h
def fn_X12_writeSubject_2  : Nat → Int32 → uS → Option uS
  | 0 => fun _ _ => none
  | n + 1 => fb_X12_writeSubject_2 (fn_X12_writeSubject_2  n)
set_option maxRecDepth 100000 in
set_option maxHeartbeats 4000000 in
theorem xn_X12_writeSubject_2 {l : Launch} {D : va_G} {A : Nat → ClassId} {B : Nat} {Z : State → Heap → Prop} {vF : Value} (uk : uK B Z vF)   : ∀ (n : Nat) (x1 : Int32)  (s : uS) (r : uS), fn_X12_writeSubject_2  n x1 s = some r → GU l D A B Z mX12_writeSubject 6 (r, none) s 2 [(0, .ref (B + 1079)), (1, .int x1)] [] := by
  intro n
  induction n with
  | zero => intro x1 s r h
            cases h
  | succ n ih => intro x1 s r h
                 exact xb_X12_writeSubject_2 uk ih  h
def fn_X12_writeSubject  (s : uS) : Option uS := fn_X12_writeSubject_2 uFu 0 s
set_option maxRecDepth 100000 in
set_option maxHeartbeats 4000000 in
theorem xc_X12_writeSubject {l : Launch} {D : va_G} {A : Nat → ClassId} {B : Nat} {Z : State → Heap → Prop} {vF : Value} (uk : uK B Z vF)  {s : uS} {r : uS}  (h : fn_X12_writeSubject  s = some r) : CU l D A B Z 6 mX12_writeSubject s [.ref (B + 1079)] (r, none) := by
  unfold fn_X12_writeSubject at h
  refine cu_of rfl uk.1.1 (Nat.le_of_ble_eq_true rfl) ?_
  show GU _ _ _ _ _ _ _ _ _ 0 [(0, .ref (B + 1079))] []
  refine uu_iconst (v := 0) dX12_writeSubject_0 (by decide) ?_
  refine uu_istore_n dX12_writeSubject_1 rfl (by decide) rfl ?_
  refine uu_lv [1, 0] (lv' := [(0, .ref (B + 1079)), (1, .int 0)]) rfl ?_
  exact xn_X12_writeSubject_2 uk  _ _ _ _ h
abbrev mX12_writeLetter : hM := (yX12_writeLetter, cX12_writeLetter, 3, none)
theorem kX12_writeString : h_ml mX12_writeString 1 := ⟨h_t10 118 rfl rfl, h_t1 16 rfl rfl, ⟨by decide, by decide, by decide +kernel⟩, by decide⟩
theorem lX12_918 : Cond.methodLink RX12 918 mX12_writeString.1 ∈ lw_g := h_t10 115 rfl rfl
theorem sX12_writeString : Cond.instanceMethod mX12_writeString.1 ∈ lw_g ∧ Cond.selects mX12_writeString.1.cls mX12_writeString.1 mX12_writeString.1 ∈ lw_g := ⟨h_t10 117 rfl rfl, h_ins 223 rfl⟩
theorem dX12_writeLetter_136 : decode cX12_writeLetter 136 = .ok (.invokevirtual 918, 3) := by decide +kernel
theorem dX12_writeLetter_139 : decode cX12_writeLetter 139 = .ok (.aload_n 0, 1) := by decide +kernel
theorem kX12_writeEnd : h_ml mX12_writeEnd 0 := ⟨h_t10 112 rfl rfl, h_t1 16 rfl rfl, ⟨by decide, by decide, by decide +kernel⟩, by decide⟩
theorem lX12_911 : Cond.methodLink RX12 911 mX12_writeEnd.1 ∈ lw_g := h_t10 109 rfl rfl
theorem sX12_writeEnd : Cond.instanceMethod mX12_writeEnd.1 ∈ lw_g ∧ Cond.selects mX12_writeEnd.1.cls mX12_writeEnd.1 mX12_writeEnd.1 ∈ lw_g := ⟨h_t10 111 rfl rfl, h_ins 222 rfl⟩
theorem dX12_writeLetter_140 : decode cX12_writeLetter 140 = .ok (.invokevirtual 911, 3) := by decide +kernel
theorem dX12_writeLetter_143 : decode cX12_writeLetter 143 = .ok (.return_, 1) := by decide +kernel
theorem dX12_writeLetter_102 : decode cX12_writeLetter 102 = .ok (.aload_n 0, 1) := by decide +kernel
theorem dX12_writeLetter_103 : decode cX12_writeLetter 103 = .ok (.invokevirtual 911, 3) := by decide +kernel
theorem dX12_writeLetter_106 : decode cX12_writeLetter 106 = .ok (.aload_n 0, 1) := by decide +kernel
theorem dX12_writeLetter_107 : decode cX12_writeLetter 107 = .ok (.invokevirtual 911, 3) := by decide +kernel
theorem dX12_writeLetter_110 : decode cX12_writeLetter 110 = .ok (.aload_n 0, 1) := by decide +kernel
theorem dX12_writeLetter_111 : decode cX12_writeLetter 111 = .ok (.iload_n 1, 1) := by decide +kernel
theorem dX12_writeLetter_112 : decode cX12_writeLetter 112 = .ok (.ifCond .eq 15, 3) := by decide +kernel
theorem dX12_writeLetter_127 : decode cX12_writeLetter 127 = .ok (.aload_n 0, 1) := by decide +kernel
theorem dX12_writeLetter_128 : decode cX12_writeLetter 128 = .ok (.getfield 439, 3) := by decide +kernel
theorem dX12_writeLetter_131 : decode cX12_writeLetter 131 = .ok (.aload_n 0, 1) := by decide +kernel
theorem dX12_writeLetter_132 : decode cX12_writeLetter 132 = .ok (.getfield 761, 3) := by decide +kernel
theorem dX12_writeLetter_135 : decode cX12_writeLetter 135 = .ok (.iaload, 1) := by decide +kernel
theorem dX12_writeLetter_115 : decode cX12_writeLetter 115 = .ok (.aload_n 0, 1) := by decide +kernel
theorem dX12_writeLetter_116 : decode cX12_writeLetter 116 = .ok (.getfield 439, 3) := by decide +kernel
theorem dX12_writeLetter_119 : decode cX12_writeLetter 119 = .ok (.aload_n 0, 1) := by decide +kernel
theorem fX12_755 : h_fl RX12 755 12 103 RX12 TX12 153 := ⟨rfl, by decide, inX12, h_t12 64 rfl rfl⟩
theorem dX12_writeLetter_120 : decode cX12_writeLetter 120 = .ok (.getfield 755, 3) := by decide +kernel
theorem dX12_writeLetter_123 : decode cX12_writeLetter 123 = .ok (.iaload, 1) := by decide +kernel
theorem dX12_writeLetter_124 : decode cX12_writeLetter 124 = .ok (.goto 12, 3) := by decide +kernel
theorem dX12_writeLetter_14 : decode cX12_writeLetter 14 = .ok (.iload_n 2, 1) := by decide +kernel
theorem dX12_writeLetter_15 : decode cX12_writeLetter 15 = .ok (.aload_n 0, 1) := by decide +kernel
theorem dX12_writeLetter_16 : decode cX12_writeLetter 16 = .ok (.getfield 678, 3) := by decide +kernel
theorem dX12_writeLetter_19 : decode cX12_writeLetter 19 = .ok (.if_icmp .ge 19, 3) := by decide +kernel
theorem dX12_writeLetter_38 : decode cX12_writeLetter 38 = .ok (.aload_n 0, 1) := by decide +kernel
theorem dX12_writeLetter_39 : decode cX12_writeLetter 39 = .ok (.invokevirtual 911, 3) := by decide +kernel
theorem dX12_writeLetter_42 : decode cX12_writeLetter 42 = .ok (.aload_n 0, 1) := by decide +kernel
theorem dX12_writeLetter_43 : decode cX12_writeLetter 43 = .ok (.ldc_w 914, 3) := by decide +kernel
theorem kX12_writeWord : h_ml mX12_writeWord 1 := ⟨h_t10 104 rfl rfl, h_t1 16 rfl rfl, ⟨by decide, by decide, by decide +kernel⟩, by decide⟩
theorem lX12_908 : Cond.methodLink RX12 908 mX12_writeWord.1 ∈ lw_g := h_t10 101 rfl rfl
theorem sX12_writeWord : Cond.instanceMethod mX12_writeWord.1 ∈ lw_g ∧ Cond.selects mX12_writeWord.1.cls mX12_writeWord.1 mX12_writeWord.1 ∈ lw_g := ⟨h_t10 103 rfl rfl, h_ins 220 rfl⟩
theorem dX12_writeLetter_46 : decode cX12_writeLetter 46 = .ok (.invokevirtual 908, 3) := by decide +kernel
theorem dX12_writeLetter_49 : decode cX12_writeLetter 49 = .ok (.iload_n 1, 1) := by decide +kernel
theorem dX12_writeLetter_50 : decode cX12_writeLetter 50 = .ok (.ifCond .eq 13, 3) := by decide +kernel
theorem dX12_writeLetter_63 : decode cX12_writeLetter 63 = .ok (.aload_n 0, 1) := by decide +kernel
theorem dX12_writeLetter_64 : decode cX12_writeLetter 64 = .ok (.getfield 325, 3) := by decide +kernel
theorem dX12_writeLetter_67 : decode cX12_writeLetter 67 = .ok (.aload_n 0, 1) := by decide +kernel
theorem dX12_writeLetter_68 : decode cX12_writeLetter 68 = .ok (.getfield 761, 3) := by decide +kernel
theorem dX12_writeLetter_71 : decode cX12_writeLetter 71 = .ok (.iaload, 1) := by decide +kernel
theorem dX12_writeLetter_72 : decode cX12_writeLetter 72 = .ok (.ifCond .lt 19, 3) := by decide +kernel
theorem dX12_writeLetter_91 : decode cX12_writeLetter 91 = .ok (.aload_n 0, 1) := by decide +kernel
theorem dX12_writeLetter_92 : decode cX12_writeLetter 92 = .ok (.ldc_w 921, 3) := by decide +kernel
theorem dX12_writeLetter_95 : decode cX12_writeLetter 95 = .ok (.invokevirtual 908, 3) := by decide +kernel
theorem dX12_writeLetter_98 : decode cX12_writeLetter 98 = .ok (.aload_n 0, 1) := by decide +kernel
theorem kX12_writeSubject : h_ml mX12_writeSubject 0 := ⟨h_t10 123 rfl rfl, h_t1 16 rfl rfl, ⟨by decide, by decide, by decide +kernel⟩, by decide⟩
theorem lX12_923 : Cond.methodLink RX12 923 mX12_writeSubject.1 ∈ lw_g := h_t10 120 rfl rfl
theorem sX12_writeSubject : Cond.instanceMethod mX12_writeSubject.1 ∈ lw_g ∧ Cond.selects mX12_writeSubject.1.cls mX12_writeSubject.1 mX12_writeSubject.1 ∈ lw_g := ⟨h_t10 122 rfl rfl, h_ins 224 rfl⟩
theorem dX12_writeLetter_99 : decode cX12_writeLetter 99 = .ok (.invokevirtual 923, 3) := by decide +kernel
theorem dX12_writeLetter_75 : decode cX12_writeLetter 75 = .ok (.aload_n 0, 1) := by decide +kernel
theorem dX12_writeLetter_76 : decode cX12_writeLetter 76 = .ok (.aload_n 0, 1) := by decide +kernel
theorem dX12_writeLetter_77 : decode cX12_writeLetter 77 = .ok (.getfield 325, 3) := by decide +kernel
theorem dX12_writeLetter_80 : decode cX12_writeLetter 80 = .ok (.aload_n 0, 1) := by decide +kernel
theorem dX12_writeLetter_81 : decode cX12_writeLetter 81 = .ok (.getfield 761, 3) := by decide +kernel
theorem dX12_writeLetter_84 : decode cX12_writeLetter 84 = .ok (.iaload, 1) := by decide +kernel
theorem dX12_writeLetter_85 : decode cX12_writeLetter 85 = .ok (.invokevirtual 918, 3) := by decide +kernel
theorem dX12_writeLetter_88 : decode cX12_writeLetter 88 = .ok (.goto 14, 3) := by decide +kernel
theorem dX12_writeLetter_53 : decode cX12_writeLetter 53 = .ok (.aload_n 0, 1) := by decide +kernel
theorem dX12_writeLetter_54 : decode cX12_writeLetter 54 = .ok (.ldc_w 916, 3) := by decide +kernel
theorem dX12_writeLetter_57 : decode cX12_writeLetter 57 = .ok (.invokevirtual 908, 3) := by decide +kernel
theorem dX12_writeLetter_60 : decode cX12_writeLetter 60 = .ok (.goto 42, 3) := by decide +kernel
theorem dX12_writeLetter_22 : decode cX12_writeLetter 22 = .ok (.aload_n 0, 1) := by decide +kernel
theorem dX12_writeLetter_23 : decode cX12_writeLetter 23 = .ok (.aload_n 0, 1) := by decide +kernel
theorem dX12_writeLetter_24 : decode cX12_writeLetter 24 = .ok (.getfield 681, 3) := by decide +kernel
theorem dX12_writeLetter_27 : decode cX12_writeLetter 27 = .ok (.iload_n 2, 1) := by decide +kernel
theorem dX12_writeLetter_28 : decode cX12_writeLetter 28 = .ok (.iaload, 1) := by decide +kernel
theorem dX12_writeLetter_29 : decode cX12_writeLetter 29 = .ok (.invokevirtual 903, 3) := by decide +kernel
theorem dX12_writeLetter_32 : decode cX12_writeLetter 32 = .ok (.iinc 2 1, 3) := by decide +kernel
theorem dX12_writeLetter_35 : decode cX12_writeLetter 35 = .ok (.goto (-21), 3) := by decide +kernel
theorem dX12_writeLetter_0 : decode cX12_writeLetter 0 = .ok (.aload_n 0, 1) := by decide +kernel
theorem dX12_writeLetter_1 : decode cX12_writeLetter 1 = .ok (.iconst 0, 1) := by decide +kernel
theorem dX12_writeLetter_2 : decode cX12_writeLetter 2 = .ok (.putfield 900, 3) := by decide +kernel
theorem dX12_writeLetter_5 : decode cX12_writeLetter 5 = .ok (.aload_n 0, 1) := by decide +kernel
theorem dX12_writeLetter_6 : decode cX12_writeLetter 6 = .ok (.ldc_w 906, 3) := by decide +kernel
theorem dX12_writeLetter_9 : decode cX12_writeLetter 9 = .ok (.invokevirtual 908, 3) := by decide +kernel
theorem dX12_writeLetter_12 : decode cX12_writeLetter 12 = .ok (.iconst 0, 1) := by decide +kernel
theorem dX12_writeLetter_13 : decode cX12_writeLetter 13 = .ok (.istore_n 2, 1) := by decide +kernel
def fb_X12_writeLetter_136  (xs0 : Int32) (s : uS) : Option uS := (fn_X12_writeString xs0 s).bind fun s1 => (fn_X12_writeEnd s1).bind fun s3 => some s3
set_option maxRecDepth 100000 in
set_option maxHeartbeats 4000000 in
theorem xb_X12_writeLetter_136 {l : Launch} {D : va_G} {A : Nat → ClassId} {B : Nat} {Z : State → Heap → Prop} {vF : Value} (uk : uK B Z vF)   {xs0 : Int32} {s : uS} {r : uS}  (h : fb_X12_writeLetter_136  xs0 s = some r) : GU l D A B Z mX12_writeLetter 7 (r, none) s 136 [(0, .ref (B + 1079))] [.int xs0, .ref (B + 1079)] := by
  unfold fb_X12_writeLetter_136 at h
  obtain ⟨s1, e2, h⟩ := uu_ob h
  refine uu_cv (d1 := 1) (k := 1079) (ci := 12) (T := TX12) (N := 153) (As := [.int xs0]) (st := []) (st' := []) (xc_X12_writeString uk  e2) so_1079.is (by decide) rfl kX12_writeString lX12_918 sX12_writeString (by decide) (Nat.le_of_ble_eq_true rfl) dX12_writeLetter_136 rfl ?_
  refine uu_aload_n dX12_writeLetter_139 rfl (List.mem_of_getElem? (i := 0) rfl) ?_
  obtain ⟨s3, e4, h⟩ := uu_ob h
  refine uu_cv (d1 := 1) (k := 1079) (ci := 12) (T := TX12) (N := 153) (As := []) (st := []) (st' := []) (xc_X12_writeEnd uk  e4) so_1079.is (by decide) rfl kX12_writeEnd lX12_911 sX12_writeEnd (by decide) (Nat.le_of_ble_eq_true rfl) dX12_writeLetter_140 rfl ?_
  have hr := Option.some.inj h
  subst hr
  exact uu_vret rfl dX12_writeLetter_143
def fb_X12_writeLetter_102  (b1 : Bool) (s : uS) : Option uS := (fn_X12_writeEnd s).bind fun s1 => (fn_X12_writeEnd s1).bind fun s3 => if b1 = true then ((iget 20 s3 1102 (s3.I 1079 103)).bind fun v8 => fb_X12_writeLetter_136 v8 s3) else ((iget 20 s3 1102 (s3.I 1079 105)).bind fun v6 => fb_X12_writeLetter_136 v6 s3)
set_option maxRecDepth 100000 in
set_option maxHeartbeats 4000000 in
theorem xb_X12_writeLetter_102 {l : Launch} {D : va_G} {A : Nat → ClassId} {B : Nat} {Z : State → Heap → Prop} {vF : Value} (uk : uK B Z vF)   {b1 : Bool} {s : uS} {r : uS}  (h : fb_X12_writeLetter_102  b1 s = some r) : GU l D A B Z mX12_writeLetter 7 (r, none) s 102 [(0, .ref (B + 1079)), (1, .int (bI b1))] [] := by
  unfold fb_X12_writeLetter_102 at h
  refine uu_aload_n dX12_writeLetter_102 rfl (List.mem_of_getElem? (i := 0) rfl) ?_
  obtain ⟨s1, e2, h⟩ := uu_ob h
  refine uu_cv (d1 := 1) (k := 1079) (ci := 12) (T := TX12) (N := 153) (As := []) (st := []) (st' := []) (xc_X12_writeEnd uk  e2) so_1079.is (by decide) rfl kX12_writeEnd lX12_911 sX12_writeEnd (by decide) (Nat.le_of_ble_eq_true rfl) dX12_writeLetter_103 rfl ?_
  refine uu_aload_n dX12_writeLetter_106 rfl (List.mem_of_getElem? (i := 0) rfl) ?_
  obtain ⟨s3, e4, h⟩ := uu_ob h
  refine uu_cv (d1 := 1) (k := 1079) (ci := 12) (T := TX12) (N := 153) (As := []) (st := []) (st' := []) (xc_X12_writeEnd uk  e4) so_1079.is (by decide) rfl kX12_writeEnd lX12_911 sX12_writeEnd (by decide) (Nat.le_of_ble_eq_true rfl) dX12_writeLetter_107 rfl ?_
  refine uu_aload_n dX12_writeLetter_110 rfl (List.mem_of_getElem? (i := 0) rfl) ?_
  refine uu_iload_n dX12_writeLetter_111 rfl (List.mem_of_getElem? (i := 1) rfl) ?_
  refine uu_ifb_eq (tgt := 127) dX12_writeLetter_112 (by decide) (fun c5 => ?_) (fun c5 => ?_)
  · replace h := uu_neg c5 h
    refine uu_aload_n dX12_writeLetter_127 rfl (List.mem_of_getElem? (i := 0) rfl) ?_
    refine uu_geta (ci := 12) (N := 153) fX12_439 (by decide) so_1079.is (by decide) (c := 1102) (by decide) dX12_writeLetter_128 ?_
    refine uu_aload_n dX12_writeLetter_131 rfl (List.mem_of_getElem? (i := 0) rfl) ?_
    refine uu_geti (ci := 12) (N := 153) fX12_761 (by decide) so_1079.is (by decide) (by decide) dX12_writeLetter_132 ?_
    obtain ⟨v6, e7, h⟩ := uu_ob h
    refine uu_iald e7 dX12_writeLetter_135 ?_
    refine uu_lv [0] (lv' := [(0, .ref (B + 1079))]) rfl ?_
    exact xb_X12_writeLetter_136 uk  h
  · replace h := uu_pos c5 h
    refine uu_aload_n dX12_writeLetter_115 rfl (List.mem_of_getElem? (i := 0) rfl) ?_
    refine uu_geta (ci := 12) (N := 153) fX12_439 (by decide) so_1079.is (by decide) (c := 1102) (by decide) dX12_writeLetter_116 ?_
    refine uu_aload_n dX12_writeLetter_119 rfl (List.mem_of_getElem? (i := 0) rfl) ?_
    refine uu_geti (ci := 12) (N := 153) fX12_755 (by decide) so_1079.is (by decide) (by decide) dX12_writeLetter_120 ?_
    obtain ⟨v8, e9, h⟩ := uu_ob h
    refine uu_iald e9 dX12_writeLetter_123 ?_
    refine uu_goto (tgt := 136) dX12_writeLetter_124 (by decide) ?_
    refine uu_lv [0] (lv' := [(0, .ref (B + 1079))]) rfl ?_
    exact xb_X12_writeLetter_136 uk  h
def fb_X12_writeLetter_14 (K14 : Bool → Int32 → uS → Option uS) (b1 : Bool) (x2 : Int32) (s : uS) : Option uS := if (s.I 1079 93) ≤ x2 then ((fn_X12_writeEnd s).bind fun s2 => (fn_X12_writeWord kW_156 s2).bind fun s5 => if b1 = true then ((fn_X12_writeWord kW_157 s5).bind fun s21 => fb_X12_writeLetter_102 b1 s21) else ((iget 20 s5 1114 (s5.I 1079 105)).bind fun v8 => if v8 < 0 then ((fn_X12_writeWord kW_158 s5).bind fun s12 => (fn_X12_writeSubject s12).bind fun s14 => fb_X12_writeLetter_102 b1 s14) else ((iget 20 s5 1114 (s5.I 1079 105)).bind fun v16 => (fn_X12_writeString v16 s5).bind fun s18 => fb_X12_writeLetter_102 b1 s18))) else ((iget 20 s 1137 x2).bind fun v23 => (fn_X12_write v23 s).bind fun s25 => K14 b1 (x2 + 1) s25)
set_option maxRecDepth 100000 in
set_option maxHeartbeats 4000000 in
theorem xb_X12_writeLetter_14 {l : Launch} {D : va_G} {A : Nat → ClassId} {B : Nat} {Z : State → Heap → Prop} {vF : Value} (uk : uK B Z vF) {K14 : Bool → Int32 → uS → Option uS} (hK14 : ∀ (b1 : Bool) (x2 : Int32)  (s : uS) (r : uS), K14 b1 x2 s = some r → GU l D A B Z mX12_writeLetter 7 (r, none) s 14 [(0, .ref (B + 1079)), (1, .int (bI b1)), (2, .int x2)] []) {b1 : Bool} {x2 : Int32} {s : uS} {r : uS}  (h : fb_X12_writeLetter_14 K14 b1 x2 s = some r) : GU l D A B Z mX12_writeLetter 7 (r, none) s 14 [(0, .ref (B + 1079)), (1, .int (bI b1)), (2, .int x2)] [] := by
  unfold fb_X12_writeLetter_14 at h
  refine uu_iload_n dX12_writeLetter_14 rfl (List.mem_of_getElem? (i := 2) rfl) ?_
  refine uu_aload_n dX12_writeLetter_15 rfl (List.mem_of_getElem? (i := 0) rfl) ?_
  refine uu_geti (ci := 12) (N := 153) fX12_678 (by decide) so_1079.is (by decide) (by decide) dX12_writeLetter_16 ?_
  refine uu_icmp_ge (tgt := 38) dX12_writeLetter_19 (by decide) (fun c1 => ?_) (fun c1 => ?_)
  · replace h := uu_pos c1 h
    refine uu_aload_n dX12_writeLetter_38 rfl (List.mem_of_getElem? (i := 0) rfl) ?_
    obtain ⟨s2, e3, h⟩ := uu_ob h
    refine uu_cv (d1 := 1) (k := 1079) (ci := 12) (T := TX12) (N := 153) (As := []) (st := []) (st' := []) (xc_X12_writeEnd uk  e3) so_1079.is (by decide) rfl kX12_writeEnd lX12_911 sX12_writeEnd (by decide) (Nat.le_of_ble_eq_true rfl) dX12_writeLetter_39 rfl ?_
    refine uu_aload_n dX12_writeLetter_42 rfl (List.mem_of_getElem? (i := 0) rfl) ?_
    obtain ⟨cq4, cp4, cv4, cw4⟩ := uk.2.1 156 _ rfl
    refine uu_ldcwS cv4 dX12_writeLetter_43 ?_
    obtain ⟨s5, e6, h⟩ := uu_ob h
    refine uu_cv (d1 := 4) (k := 1079) (ci := 12) (T := TX12) (N := 153) (As := [.ref cq4]) (st := []) (st' := []) (xc_X12_writeWord uk cw4 e6) so_1079.is (by decide) rfl kX12_writeWord lX12_908 sX12_writeWord (by decide) (Nat.le_of_ble_eq_true rfl) dX12_writeLetter_46 rfl ?_
    refine uu_iload_n dX12_writeLetter_49 rfl (List.mem_of_getElem? (i := 1) rfl) ?_
    refine uu_ifb_eq (tgt := 63) dX12_writeLetter_50 (by decide) (fun c7 => ?_) (fun c7 => ?_)
    · replace h := uu_neg c7 h
      refine uu_aload_n dX12_writeLetter_63 rfl (List.mem_of_getElem? (i := 0) rfl) ?_
      refine uu_geta (ci := 12) (N := 153) fX12_325 (by decide) so_1079.is (by decide) (c := 1114) (by decide) dX12_writeLetter_64 ?_
      refine uu_aload_n dX12_writeLetter_67 rfl (List.mem_of_getElem? (i := 0) rfl) ?_
      refine uu_geti (ci := 12) (N := 153) fX12_761 (by decide) so_1079.is (by decide) (by decide) dX12_writeLetter_68 ?_
      obtain ⟨v8, e9, h⟩ := uu_ob h
      refine uu_iald e9 dX12_writeLetter_71 ?_
      refine uu_if_lt (tgt := 91) dX12_writeLetter_72 (by decide) (fun c10 => ?_) (fun c10 => ?_)
      · replace h := uu_pos c10 h
        refine uu_aload_n dX12_writeLetter_91 rfl (List.mem_of_getElem? (i := 0) rfl) ?_
        obtain ⟨cq11, cp11, cv11, cw11⟩ := uk.2.1 158 _ rfl
        refine uu_ldcwS cv11 dX12_writeLetter_92 ?_
        obtain ⟨s12, e13, h⟩ := uu_ob h
        refine uu_cv (d1 := 4) (k := 1079) (ci := 12) (T := TX12) (N := 153) (As := [.ref cq11]) (st := []) (st' := []) (xc_X12_writeWord uk cw11 e13) so_1079.is (by decide) rfl kX12_writeWord lX12_908 sX12_writeWord (by decide) (Nat.le_of_ble_eq_true rfl) dX12_writeLetter_95 rfl ?_
        refine uu_aload_n dX12_writeLetter_98 rfl (List.mem_of_getElem? (i := 0) rfl) ?_
        obtain ⟨s14, e15, h⟩ := uu_ob h
        refine uu_cv (d1 := 6) (k := 1079) (ci := 12) (T := TX12) (N := 153) (As := []) (st := []) (st' := []) (xc_X12_writeSubject uk  e15) so_1079.is (by decide) rfl kX12_writeSubject lX12_923 sX12_writeSubject (by decide) (Nat.le_of_ble_eq_true rfl) dX12_writeLetter_99 rfl ?_
        refine uu_lv [0, 1] (lv' := [(0, .ref (B + 1079)), (1, .int (bI b1))]) rfl ?_
        exact xb_X12_writeLetter_102 uk  h
      · replace h := uu_neg c10 h
        refine uu_aload_n dX12_writeLetter_75 rfl (List.mem_of_getElem? (i := 0) rfl) ?_
        refine uu_aload_n dX12_writeLetter_76 rfl (List.mem_of_getElem? (i := 0) rfl) ?_
        refine uu_geta (ci := 12) (N := 153) fX12_325 (by decide) so_1079.is (by decide) (c := 1114) (by decide) dX12_writeLetter_77 ?_
        refine uu_aload_n dX12_writeLetter_80 rfl (List.mem_of_getElem? (i := 0) rfl) ?_
        refine uu_geti (ci := 12) (N := 153) fX12_761 (by decide) so_1079.is (by decide) (by decide) dX12_writeLetter_81 ?_
        obtain ⟨v16, e17, h⟩ := uu_ob h
        refine uu_iald e17 dX12_writeLetter_84 ?_
        obtain ⟨s18, e19, h⟩ := uu_ob h
        refine uu_cv (d1 := 1) (k := 1079) (ci := 12) (T := TX12) (N := 153) (As := [.int v16]) (st := []) (st' := []) (xc_X12_writeString uk  e19) so_1079.is (by decide) rfl kX12_writeString lX12_918 sX12_writeString (by decide) (Nat.le_of_ble_eq_true rfl) dX12_writeLetter_85 rfl ?_
        refine uu_goto (tgt := 102) dX12_writeLetter_88 (by decide) ?_
        refine uu_lv [0, 1] (lv' := [(0, .ref (B + 1079)), (1, .int (bI b1))]) rfl ?_
        exact xb_X12_writeLetter_102 uk  h
    · replace h := uu_pos c7 h
      refine uu_aload_n dX12_writeLetter_53 rfl (List.mem_of_getElem? (i := 0) rfl) ?_
      obtain ⟨cq20, cp20, cv20, cw20⟩ := uk.2.1 157 _ rfl
      refine uu_ldcwS cv20 dX12_writeLetter_54 ?_
      obtain ⟨s21, e22, h⟩ := uu_ob h
      refine uu_cv (d1 := 4) (k := 1079) (ci := 12) (T := TX12) (N := 153) (As := [.ref cq20]) (st := []) (st' := []) (xc_X12_writeWord uk cw20 e22) so_1079.is (by decide) rfl kX12_writeWord lX12_908 sX12_writeWord (by decide) (Nat.le_of_ble_eq_true rfl) dX12_writeLetter_57 rfl ?_
      refine uu_goto (tgt := 102) dX12_writeLetter_60 (by decide) ?_
      refine uu_lv [0, 1] (lv' := [(0, .ref (B + 1079)), (1, .int (bI b1))]) rfl ?_
      exact xb_X12_writeLetter_102 uk  h
  · replace h := uu_neg c1 h
    refine uu_aload_n dX12_writeLetter_22 rfl (List.mem_of_getElem? (i := 0) rfl) ?_
    refine uu_aload_n dX12_writeLetter_23 rfl (List.mem_of_getElem? (i := 0) rfl) ?_
    refine uu_geta (ci := 12) (N := 153) fX12_681 (by decide) so_1079.is (by decide) (c := 1137) (by decide) dX12_writeLetter_24 ?_
    refine uu_iload_n dX12_writeLetter_27 rfl (List.mem_of_getElem? (i := 2) rfl) ?_
    obtain ⟨v23, e24, h⟩ := uu_ob h
    refine uu_iald e24 dX12_writeLetter_28 ?_
    obtain ⟨s25, e26, h⟩ := uu_ob h
    refine uu_cv (d1 := 0) (k := 1079) (ci := 12) (T := TX12) (N := 153) (As := [.int v23]) (st := []) (st' := []) (xc_X12_write uk  e26) so_1079.is (by decide) rfl kX12_write lX12_903 sX12_write (by decide) (Nat.le_of_ble_eq_true rfl) dX12_writeLetter_29 rfl ?_
    refine uu_iinc (v := x2 + 1) dX12_writeLetter_32 (k := 2) rfl rfl (by decide) rfl ?_
    refine uu_goto (tgt := 14) dX12_writeLetter_35 (by decide) ?_
    refine uu_lv [1, 2, 0] (lv' := [(0, .ref (B + 1079)), (1, .int (bI b1)), (2, .int (x2 + 1))]) rfl ?_
    exact hK14 b1 (x2 + 1) _ _ h
def fn_X12_writeLetter_14  : Nat → Bool → Int32 → uS → Option uS
  | 0 => fun _ _ _ => none
  | n + 1 => fb_X12_writeLetter_14 (fn_X12_writeLetter_14  n)
set_option maxRecDepth 100000 in
set_option maxHeartbeats 4000000 in
theorem xn_X12_writeLetter_14 {l : Launch} {D : va_G} {A : Nat → ClassId} {B : Nat} {Z : State → Heap → Prop} {vF : Value} (uk : uK B Z vF)   : ∀ (n : Nat) (b1 : Bool) (x2 : Int32)  (s : uS) (r : uS), fn_X12_writeLetter_14  n b1 x2 s = some r → GU l D A B Z mX12_writeLetter 7 (r, none) s 14 [(0, .ref (B + 1079)), (1, .int (bI b1)), (2, .int x2)] [] := by
  intro n
  induction n with
  | zero => intro b1 x2 s r h
            cases h
  | succ n ih => intro b1 x2 s r h
                 exact xb_X12_writeLetter_14 uk ih  h
def fn_X12_writeLetter (b1 : Bool) (s : uS) : Option uS := (fn_X12_writeWord kW_155 (wI s 1079 112 0)).bind fun s2 => fn_X12_writeLetter_14 uFu b1 0 s2
set_option maxRecDepth 100000 in
set_option maxHeartbeats 4000000 in
theorem xc_X12_writeLetter {l : Launch} {D : va_G} {A : Nat → ClassId} {B : Nat} {Z : State → Heap → Prop} {vF : Value} (uk : uK B Z vF) {b1 : Bool} {s : uS} {r : uS}  (h : fn_X12_writeLetter b1 s = some r) : CU l D A B Z 7 mX12_writeLetter s [.ref (B + 1079), .int (bI b1)] (r, none) := by
  unfold fn_X12_writeLetter at h
  refine cu_of rfl uk.1.1 (Nat.le_of_ble_eq_true rfl) ?_
  show GU _ _ _ _ _ _ _ _ _ 0 [(0, .ref (B + 1079)), (1, .int (bI b1))] []
  refine uu_aload_n dX12_writeLetter_0 rfl (List.mem_of_getElem? (i := 0) rfl) ?_
  refine uu_iconst (v := 0) dX12_writeLetter_1 (by decide) ?_
  refine uu_puti (ft := .int) (ci := 12) (N := 153) fX12_900 ptX12 (Or.inl rfl) (by decide) so_1079.is (by decide) (by decide) (by decide +kernel) rfl rfl dX12_writeLetter_2 ?_
  refine uu_aload_n dX12_writeLetter_5 rfl (List.mem_of_getElem? (i := 0) rfl) ?_
  obtain ⟨cq1, cp1, cv1, cw1⟩ := uk.2.1 155 _ rfl
  refine uu_ldcwS cv1 dX12_writeLetter_6 ?_
  obtain ⟨s2, e3, h⟩ := uu_ob h
  refine uu_cv (d1 := 4) (k := 1079) (ci := 12) (T := TX12) (N := 153) (As := [.ref cq1]) (st := []) (st' := []) (xc_X12_writeWord uk cw1 e3) so_1079.is (by decide) rfl kX12_writeWord lX12_908 sX12_writeWord (by decide) (Nat.le_of_ble_eq_true rfl) dX12_writeLetter_9 rfl ?_
  refine uu_iconst (v := 0) dX12_writeLetter_12 (by decide) ?_
  refine uu_istore_n dX12_writeLetter_13 rfl (by decide) rfl ?_
  refine uu_lv [1, 2, 0] (lv' := [(0, .ref (B + 1079)), (1, .int (bI b1)), (2, .int 0)]) rfl ?_
  exact xn_X12_writeLetter_14 uk  _ _ _ _ _ h
abbrev mX12_activeOf : hM := (yX12_activeOf, cX12_activeOf, 2, (some (.int)))
theorem dX12_activeOf_0 : decode cX12_activeOf 0 = .ok (.aload_n 0, 1) := by decide +kernel
theorem dX12_activeOf_1 : decode cX12_activeOf 1 = .ok (.getfield 926, 3) := by decide +kernel
theorem dX12_activeOf_4 : decode cX12_activeOf 4 = .ok (.iload_n 1, 1) := by decide +kernel
theorem dX12_activeOf_5 : decode cX12_activeOf 5 = .ok (.iaload, 1) := by decide +kernel
theorem dX12_activeOf_6 : decode cX12_activeOf 6 = .ok (.ireturn, 1) := by decide +kernel
def fn_X12_activeOf (x1 : Int32) (s : uS) : Option Int32 := (iget 20 s 1150 x1).bind fun v1 => some v1
set_option maxRecDepth 100000 in
set_option maxHeartbeats 4000000 in
theorem xc_X12_activeOf {l : Launch} {D : va_G} {A : Nat → ClassId} {B : Nat} {Z : State → Heap → Prop} {vF : Value} (uk : uK B Z vF) {x1 : Int32} {s : uS} {r : Int32}  (h : fn_X12_activeOf x1 s = some r) : CU l D A B Z 0 mX12_activeOf s [.ref (B + 1079), .int x1] (s, some (.int r)) := by
  unfold fn_X12_activeOf at h
  refine cu_of rfl uk.1.1 (Nat.le_of_ble_eq_true rfl) ?_
  show GU _ _ _ _ _ _ _ _ _ 0 [(0, .ref (B + 1079)), (1, .int x1)] []
  refine uu_aload_n dX12_activeOf_0 rfl (List.mem_of_getElem? (i := 0) rfl) ?_
  refine uu_geta (ci := 12) (N := 153) fX12_926 (by decide) so_1079.is (by decide) (c := 1150) (by decide) dX12_activeOf_1 ?_
  refine uu_iload_n dX12_activeOf_4 rfl (List.mem_of_getElem? (i := 1) rfl) ?_
  obtain ⟨v1, e2, h⟩ := uu_ob h
  refine uu_iald e2 dX12_activeOf_5 ?_
  have hr := Option.some.inj h
  subst hr
  exact uu_iret rfl dX12_activeOf_6
abbrev mX12_begin : hM := (yX12_begin, cX12_begin, 1, none)
theorem dX12_begin_0 : decode cX12_begin 0 = .ok (.aload_n 0, 1) := by decide +kernel
theorem dX12_begin_1 : decode cX12_begin 1 = .ok (.iconst 0, 1) := by decide +kernel
theorem dX12_begin_2 : decode cX12_begin 2 = .ok (.putfield 700, 3) := by decide +kernel
theorem dX12_begin_5 : decode cX12_begin 5 = .ok (.aload_n 0, 1) := by decide +kernel
theorem dX12_begin_6 : decode cX12_begin 6 = .ok (.iconst 1, 1) := by decide +kernel
theorem fX12_737 : h_fl RX12 737 12 95 RX12 TX12 153 := ⟨rfl, by decide, inX12, h_t12 56 rfl rfl⟩
theorem dX12_begin_7 : decode cX12_begin 7 = .ok (.putfield 737, 3) := by decide +kernel
theorem dX12_begin_10 : decode cX12_begin 10 = .ok (.aload_n 0, 1) := by decide +kernel
theorem dX12_begin_11 : decode cX12_begin 11 = .ok (.iconst 0, 1) := by decide +kernel
theorem fX12_728 : h_fl RX12 728 12 96 RX12 TX12 153 := ⟨rfl, by decide, inX12, h_t12 57 rfl rfl⟩
theorem dX12_begin_12 : decode cX12_begin 12 = .ok (.putfield 728, 3) := by decide +kernel
theorem dX12_begin_15 : decode cX12_begin 15 = .ok (.aload_n 0, 1) := by decide +kernel
theorem dX12_begin_16 : decode cX12_begin 16 = .ok (.iconst 0, 1) := by decide +kernel
theorem fX12_746 : h_fl RX12 746 12 106 RX12 TX12 153 := ⟨rfl, by decide, inX12, h_t12 67 rfl rfl⟩
theorem dX12_begin_17 : decode cX12_begin 17 = .ok (.putfield 746, 3) := by decide +kernel
theorem dX12_begin_20 : decode cX12_begin 20 = .ok (.aload_n 0, 1) := by decide +kernel
theorem dX12_begin_21 : decode cX12_begin 21 = .ok (.iconst 0, 1) := by decide +kernel
theorem dX12_begin_22 : decode cX12_begin 22 = .ok (.putfield 775, 3) := by decide +kernel
theorem dX12_begin_25 : decode cX12_begin 25 = .ok (.aload_n 0, 1) := by decide +kernel
theorem dX12_begin_26 : decode cX12_begin 26 = .ok (.iconst 0, 1) := by decide +kernel
theorem dX12_begin_27 : decode cX12_begin 27 = .ok (.putfield 787, 3) := by decide +kernel
theorem dX12_begin_30 : decode cX12_begin 30 = .ok (.aload_n 0, 1) := by decide +kernel
theorem dX12_begin_31 : decode cX12_begin 31 = .ok (.iconst 0, 1) := by decide +kernel
theorem fX12_752 : h_fl RX12 752 12 102 RX12 TX12 153 := ⟨rfl, by decide, inX12, h_t12 63 rfl rfl⟩
theorem dX12_begin_32 : decode cX12_begin 32 = .ok (.putfield 752, 3) := by decide +kernel
theorem dX12_begin_35 : decode cX12_begin 35 = .ok (.aload_n 0, 1) := by decide +kernel
theorem dX12_begin_36 : decode cX12_begin 36 = .ok (.iconst 0, 1) := by decide +kernel
theorem dX12_begin_37 : decode cX12_begin 37 = .ok (.putfield 758, 3) := by decide +kernel
theorem dX12_begin_40 : decode cX12_begin 40 = .ok (.return_, 1) := by decide +kernel
def fn_X12_begin  (s : uS) : Option uS := some (wI (wI (wI (wI (wI (wI (wI (wI s 1079 94 0) 1079 95 1) 1079 96 0) 1079 106 0) 1079 97 0) 1079 100 0) 1079 102 0) 1079 104 0)
set_option maxRecDepth 100000 in
set_option maxHeartbeats 4000000 in
theorem xc_X12_begin {l : Launch} {D : va_G} {A : Nat → ClassId} {B : Nat} {Z : State → Heap → Prop} {vF : Value} (uk : uK B Z vF)  {s : uS} {r : uS}  (h : fn_X12_begin  s = some r) : CU l D A B Z 0 mX12_begin s [.ref (B + 1079)] (r, none) := by
  unfold fn_X12_begin at h
  refine cu_of rfl uk.1.1 (Nat.le_of_ble_eq_true rfl) ?_
  show GU _ _ _ _ _ _ _ _ _ 0 [(0, .ref (B + 1079))] []
  refine uu_aload_n dX12_begin_0 rfl (List.mem_of_getElem? (i := 0) rfl) ?_
  refine uu_iconst (v := 0) dX12_begin_1 (by decide) ?_
  refine uu_puti (ft := .int) (ci := 12) (N := 153) fX12_700 ptX12 (Or.inl rfl) (by decide) so_1079.is (by decide) (by decide) (by decide +kernel) rfl rfl dX12_begin_2 ?_
  refine uu_aload_n dX12_begin_5 rfl (List.mem_of_getElem? (i := 0) rfl) ?_
  refine uu_iconst (v := 1) dX12_begin_6 (by decide) ?_
  refine uu_puti (ft := .boolean) (ci := 12) (N := 153) fX12_737 ptX12 (Or.inl rfl) (by decide) so_1079.is (by decide) (by decide) (by decide +kernel) rfl rfl dX12_begin_7 ?_
  refine uu_aload_n dX12_begin_10 rfl (List.mem_of_getElem? (i := 0) rfl) ?_
  refine uu_iconst (v := 0) dX12_begin_11 (by decide) ?_
  refine uu_puti (ft := .boolean) (ci := 12) (N := 153) fX12_728 ptX12 (Or.inl rfl) (by decide) so_1079.is (by decide) (by decide) (by decide +kernel) rfl rfl dX12_begin_12 ?_
  refine uu_aload_n dX12_begin_15 rfl (List.mem_of_getElem? (i := 0) rfl) ?_
  refine uu_iconst (v := 0) dX12_begin_16 (by decide) ?_
  refine uu_puti (ft := .boolean) (ci := 12) (N := 153) fX12_746 ptX12 (Or.inl rfl) (by decide) so_1079.is (by decide) (by decide) (by decide +kernel) rfl rfl dX12_begin_17 ?_
  refine uu_aload_n dX12_begin_20 rfl (List.mem_of_getElem? (i := 0) rfl) ?_
  refine uu_iconst (v := 0) dX12_begin_21 (by decide) ?_
  refine uu_puti (ft := .int) (ci := 12) (N := 153) fX12_775 ptX12 (Or.inl rfl) (by decide) so_1079.is (by decide) (by decide) (by decide +kernel) rfl rfl dX12_begin_22 ?_
  refine uu_aload_n dX12_begin_25 rfl (List.mem_of_getElem? (i := 0) rfl) ?_
  refine uu_iconst (v := 0) dX12_begin_26 (by decide) ?_
  refine uu_puti (ft := .int) (ci := 12) (N := 153) fX12_787 ptX12 (Or.inl rfl) (by decide) so_1079.is (by decide) (by decide) (by decide +kernel) rfl rfl dX12_begin_27 ?_
  refine uu_aload_n dX12_begin_30 rfl (List.mem_of_getElem? (i := 0) rfl) ?_
  refine uu_iconst (v := 0) dX12_begin_31 (by decide) ?_
  refine uu_puti (ft := .int) (ci := 12) (N := 153) fX12_752 ptX12 (Or.inl rfl) (by decide) so_1079.is (by decide) (by decide) (by decide +kernel) rfl rfl dX12_begin_32 ?_
  refine uu_aload_n dX12_begin_35 rfl (List.mem_of_getElem? (i := 0) rfl) ?_
  refine uu_iconst (v := 0) dX12_begin_36 (by decide) ?_
  refine uu_puti (ft := .int) (ci := 12) (N := 153) fX12_758 ptX12 (Or.inl rfl) (by decide) so_1079.is (by decide) (by decide) (by decide +kernel) rfl rfl dX12_begin_37 ?_
  have hr := Option.some.inj h
  subst hr
  exact uu_vret rfl dX12_begin_40
abbrev mX12_loadScript : hM := (yX12_loadScript, cX12_loadScript, 3, none)
theorem dX12_loadScript_12 : decode cX12_loadScript 12 = .ok (.iload_n 2, 1) := by decide +kernel
theorem dX12_loadScript_13 : decode cX12_loadScript 13 = .ok (.aload_n 0, 1) := by decide +kernel
theorem dX12_loadScript_14 : decode cX12_loadScript 14 = .ok (.getfield 184, 3) := by decide +kernel
theorem dX12_loadScript_17 : decode cX12_loadScript 17 = .ok (.if_icmp .ge 46, 3) := by decide +kernel
theorem dX12_loadScript_63 : decode cX12_loadScript 63 = .ok (.return_, 1) := by decide +kernel
theorem dX12_loadScript_20 : decode cX12_loadScript 20 = .ok (.aload_n 0, 1) := by decide +kernel
theorem dX12_loadScript_21 : decode cX12_loadScript 21 = .ok (.getfield 187, 3) := by decide +kernel
theorem dX12_loadScript_24 : decode cX12_loadScript 24 = .ok (.iload_n 2, 1) := by decide +kernel
theorem dX12_loadScript_25 : decode cX12_loadScript 25 = .ok (.aload_n 0, 1) := by decide +kernel
theorem dX12_loadScript_26 : decode cX12_loadScript 26 = .ok (.getfield 1177, 3) := by decide +kernel
theorem dX12_loadScript_29 : decode cX12_loadScript 29 = .ok (.sipush 250, 3) := by decide +kernel
theorem dX12_loadScript_32 : decode cX12_loadScript 32 = .ok (.iload_n 1, 1) := by decide +kernel
theorem dX12_loadScript_33 : decode cX12_loadScript 33 = .ok (.imul, 1) := by decide +kernel
theorem dX12_loadScript_34 : decode cX12_loadScript 34 = .ok (.iload_n 2, 1) := by decide +kernel
theorem dX12_loadScript_35 : decode cX12_loadScript 35 = .ok (.bipush 8, 2) := by decide +kernel
theorem dX12_loadScript_37 : decode cX12_loadScript 37 = .ok (.idiv, 1) := by decide +kernel
theorem dX12_loadScript_38 : decode cX12_loadScript 38 = .ok (.iadd, 1) := by decide +kernel
theorem dX12_loadScript_39 : decode cX12_loadScript 39 = .ok (.laload, 1) := by decide +kernel
theorem dX12_loadScript_40 : decode cX12_loadScript 40 = .ok (.bipush 56, 2) := by decide +kernel
theorem dX12_loadScript_42 : decode cX12_loadScript 42 = .ok (.bipush 8, 2) := by decide +kernel
theorem dX12_loadScript_44 : decode cX12_loadScript 44 = .ok (.iload_n 2, 1) := by decide +kernel
theorem dX12_loadScript_45 : decode cX12_loadScript 45 = .ok (.bipush 8, 2) := by decide +kernel
theorem dX12_loadScript_47 : decode cX12_loadScript 47 = .ok (.irem, 1) := by decide +kernel
theorem dX12_loadScript_48 : decode cX12_loadScript 48 = .ok (.imul, 1) := by decide +kernel
theorem dX12_loadScript_49 : decode cX12_loadScript 49 = .ok (.isub, 1) := by decide +kernel
theorem dX12_loadScript_50 : decode cX12_loadScript 50 = .ok (.lshr, 1) := by decide +kernel
theorem dX12_loadScript_51 : decode cX12_loadScript 51 = .ok (.l2i, 1) := by decide +kernel
theorem dX12_loadScript_52 : decode cX12_loadScript 52 = .ok (.sipush 255, 3) := by decide +kernel
theorem dX12_loadScript_55 : decode cX12_loadScript 55 = .ok (.iand, 1) := by decide +kernel
theorem dX12_loadScript_56 : decode cX12_loadScript 56 = .ok (.iastore, 1) := by decide +kernel
theorem dX12_loadScript_57 : decode cX12_loadScript 57 = .ok (.iinc 2 1, 3) := by decide +kernel
theorem dX12_loadScript_60 : decode cX12_loadScript 60 = .ok (.goto (-48), 3) := by decide +kernel
theorem dX12_loadScript_0 : decode cX12_loadScript 0 = .ok (.aload_n 0, 1) := by decide +kernel
theorem dX12_loadScript_1 : decode cX12_loadScript 1 = .ok (.aload_n 0, 1) := by decide +kernel
theorem dX12_loadScript_2 : decode cX12_loadScript 2 = .ok (.getfield 1174, 3) := by decide +kernel
theorem dX12_loadScript_5 : decode cX12_loadScript 5 = .ok (.iload_n 1, 1) := by decide +kernel
theorem dX12_loadScript_6 : decode cX12_loadScript 6 = .ok (.iaload, 1) := by decide +kernel
theorem dX12_loadScript_7 : decode cX12_loadScript 7 = .ok (.putfield 184, 3) := by decide +kernel
theorem dX12_loadScript_10 : decode cX12_loadScript 10 = .ok (.iconst 0, 1) := by decide +kernel
theorem dX12_loadScript_11 : decode cX12_loadScript 11 = .ok (.istore_n 2, 1) := by decide +kernel
def fb_X12_loadScript_12 (K12 : Int32 → Int32 → uS → Option uS) (x1 : Int32) (x2 : Int32) (s : uS) : Option uS := if (s.I 1079 29) ≤ x2 then (some s) else ((lget s 1154 (((250 : Int32) * x1) + (x2 / 8))).bind fun v2 => (iput 20 s 1096 x2 (((v2 >>> (((56 : Int32) - ((8 : Int32) * (x2 - x2 / 8 * 8))).toInt64 &&& 63)).toInt32) &&& 255)).bind fun s4 => K12 x1 (x2 + 1) s4)
set_option maxRecDepth 100000 in
set_option maxHeartbeats 4000000 in
theorem xb_X12_loadScript_12 {l : Launch} {D : va_G} {A : Nat → ClassId} {B : Nat} {Z : State → Heap → Prop} {vF : Value} (uk : uK B Z vF) {K12 : Int32 → Int32 → uS → Option uS} (hK12 : ∀ (x1 : Int32) (x2 : Int32)  (s : uS) (r : uS), K12 x1 x2 s = some r → GU l D A B Z mX12_loadScript 0 (r, none) s 12 [(0, .ref (B + 1079)), (1, .int x1), (2, .int x2)] []) {x1 : Int32} {x2 : Int32} {s : uS} {r : uS}  (h : fb_X12_loadScript_12 K12 x1 x2 s = some r) : GU l D A B Z mX12_loadScript 0 (r, none) s 12 [(0, .ref (B + 1079)), (1, .int x1), (2, .int x2)] [] := by
  unfold fb_X12_loadScript_12 at h
  refine uu_iload_n dX12_loadScript_12 rfl (List.mem_of_getElem? (i := 2) rfl) ?_
  refine uu_aload_n dX12_loadScript_13 rfl (List.mem_of_getElem? (i := 0) rfl) ?_
  refine uu_geti (ci := 12) (N := 153) fX12_184 (by decide) so_1079.is (by decide) (by decide) dX12_loadScript_14 ?_
  refine uu_icmp_ge (tgt := 63) dX12_loadScript_17 (by decide) (fun c1 => ?_) (fun c1 => ?_)
  · replace h := uu_pos c1 h
    have hr := Option.some.inj h
    subst hr
    exact uu_vret rfl dX12_loadScript_63
  · replace h := uu_neg c1 h
    refine uu_aload_n dX12_loadScript_20 rfl (List.mem_of_getElem? (i := 0) rfl) ?_
    refine uu_geta (ci := 12) (N := 153) fX12_187 (by decide) so_1079.is (by decide) (c := 1096) (by decide) dX12_loadScript_21 ?_
    refine uu_iload_n dX12_loadScript_24 rfl (List.mem_of_getElem? (i := 2) rfl) ?_
    refine uu_aload_n dX12_loadScript_25 rfl (List.mem_of_getElem? (i := 0) rfl) ?_
    refine uu_geta (ci := 12) (N := 153) fX12_1177 (by decide) so_1079.is (by decide) (c := 1154) (by decide) dX12_loadScript_26 ?_
    refine uu_sipush (v := 250) dX12_loadScript_29 (by decide) ?_
    refine uu_iload_n dX12_loadScript_32 rfl (List.mem_of_getElem? (i := 1) rfl) ?_
    refine uu_imul dX12_loadScript_33 ?_
    refine uu_iload_n dX12_loadScript_34 rfl (List.mem_of_getElem? (i := 2) rfl) ?_
    refine uu_bipush (v := 8) dX12_loadScript_35 (by decide) ?_
    refine uu_idiv dX12_loadScript_37 (by decide) ?_
    refine uu_iadd dX12_loadScript_38 ?_
    obtain ⟨v2, e3, h⟩ := uu_ob h
    refine uu_lald e3 dX12_loadScript_39 ?_
    refine uu_bipush (v := 56) dX12_loadScript_40 (by decide) ?_
    refine uu_bipush (v := 8) dX12_loadScript_42 (by decide) ?_
    refine uu_iload_n dX12_loadScript_44 rfl (List.mem_of_getElem? (i := 2) rfl) ?_
    refine uu_bipush (v := 8) dX12_loadScript_45 (by decide) ?_
    refine uu_irem dX12_loadScript_47 (by decide) ?_
    refine uu_imul dX12_loadScript_48 ?_
    refine uu_isub dX12_loadScript_49 ?_
    refine uu_lshr dX12_loadScript_50 rfl ?_
    refine uu_l2i dX12_loadScript_51 rfl ?_
    refine uu_sipush (v := 255) dX12_loadScript_52 (by decide) ?_
    refine uu_iand dX12_loadScript_55 ?_
    obtain ⟨s4, e5, h⟩ := uu_ob h
    refine uu_iast e5 dX12_loadScript_56 ?_
    refine uu_iinc (v := x2 + 1) dX12_loadScript_57 (k := 2) rfl rfl (by decide) rfl ?_
    refine uu_goto (tgt := 12) dX12_loadScript_60 (by decide) ?_
    refine uu_lv [1, 2, 0] (lv' := [(0, .ref (B + 1079)), (1, .int x1), (2, .int (x2 + 1))]) rfl ?_
    exact hK12 x1 (x2 + 1) _ _ h
def fn_X12_loadScript_12  : Nat → Int32 → Int32 → uS → Option uS
  | 0 => fun _ _ _ => none
  | n + 1 => fb_X12_loadScript_12 (fn_X12_loadScript_12  n)
set_option maxRecDepth 100000 in
set_option maxHeartbeats 4000000 in
theorem xn_X12_loadScript_12 {l : Launch} {D : va_G} {A : Nat → ClassId} {B : Nat} {Z : State → Heap → Prop} {vF : Value} (uk : uK B Z vF)   : ∀ (n : Nat) (x1 : Int32) (x2 : Int32)  (s : uS) (r : uS), fn_X12_loadScript_12  n x1 x2 s = some r → GU l D A B Z mX12_loadScript 0 (r, none) s 12 [(0, .ref (B + 1079)), (1, .int x1), (2, .int x2)] [] := by
  intro n
  induction n with
  | zero => intro x1 x2 s r h
            cases h
  | succ n ih => intro x1 x2 s r h
                 exact xb_X12_loadScript_12 uk ih  h
def fn_X12_loadScript (x1 : Int32) (s : uS) : Option uS := (iget 20 s 1155 x1).bind fun v1 => fn_X12_loadScript_12 uFu x1 0 (wI s 1079 29 v1)
set_option maxRecDepth 100000 in
set_option maxHeartbeats 4000000 in
theorem xc_X12_loadScript {l : Launch} {D : va_G} {A : Nat → ClassId} {B : Nat} {Z : State → Heap → Prop} {vF : Value} (uk : uK B Z vF) {x1 : Int32} {s : uS} {r : uS}  (h : fn_X12_loadScript x1 s = some r) : CU l D A B Z 0 mX12_loadScript s [.ref (B + 1079), .int x1] (r, none) := by
  unfold fn_X12_loadScript at h
  refine cu_of rfl uk.1.1 (Nat.le_of_ble_eq_true rfl) ?_
  show GU _ _ _ _ _ _ _ _ _ 0 [(0, .ref (B + 1079)), (1, .int x1)] []
  refine uu_aload_n dX12_loadScript_0 rfl (List.mem_of_getElem? (i := 0) rfl) ?_
  refine uu_aload_n dX12_loadScript_1 rfl (List.mem_of_getElem? (i := 0) rfl) ?_
  refine uu_geta (ci := 12) (N := 153) fX12_1174 (by decide) so_1079.is (by decide) (c := 1155) (by decide) dX12_loadScript_2 ?_
  refine uu_iload_n dX12_loadScript_5 rfl (List.mem_of_getElem? (i := 1) rfl) ?_
  obtain ⟨v1, e2, h⟩ := uu_ob h
  refine uu_iald e2 dX12_loadScript_6 ?_
  refine uu_puti (ft := .int) (ci := 12) (N := 153) fX12_184 ptX12 (Or.inl rfl) (by decide) so_1079.is (by decide) (by decide) (by decide +kernel) rfl rfl dX12_loadScript_7 ?_
  refine uu_iconst (v := 0) dX12_loadScript_10 (by decide) ?_
  refine uu_istore_n dX12_loadScript_11 rfl (by decide) rfl ?_
  refine uu_lv [1, 2, 0] (lv' := [(0, .ref (B + 1079)), (1, .int x1), (2, .int 0)]) rfl ?_
  exact xn_X12_loadScript_12 uk  _ _ _ _ _ h
