abbrev mX3_orderOfBytes : hM := (yX3_orderOfBytes, cX3_orderOfBytes, 8, (some (.int)))
theorem dX3_orderOfBytes_18 : decode cX3_orderOfBytes 18 = .ok (.iload 5, 2) := by decide +kernel
theorem dX3_orderOfBytes_20 : decode cX3_orderOfBytes 20 = .ok (.iload 4, 2) := by decide +kernel
theorem dX3_orderOfBytes_22 : decode cX3_orderOfBytes 22 = .ok (.if_icmp .ge 62, 3) := by decide +kernel
theorem dX3_orderOfBytes_84 : decode cX3_orderOfBytes 84 = .ok (.aload_n 0, 1) := by decide +kernel
theorem dX3_orderOfBytes_85 : decode cX3_orderOfBytes 85 = .ok (.iload_n 1, 1) := by decide +kernel
theorem dX3_orderOfBytes_86 : decode cX3_orderOfBytes 86 = .ok (.invokevirtual 71, 3) := by decide +kernel
theorem dX3_orderOfBytes_89 : decode cX3_orderOfBytes 89 = .ok (.aload_n 2, 1) := by decide +kernel
theorem dX3_orderOfBytes_90 : decode cX3_orderOfBytes 90 = .ok (.iload_n 3, 1) := by decide +kernel
theorem dX3_orderOfBytes_91 : decode cX3_orderOfBytes 91 = .ok (.invokevirtual 71, 3) := by decide +kernel
theorem dX3_orderOfBytes_94 : decode cX3_orderOfBytes 94 = .ok (.isub, 1) := by decide +kernel
theorem dX3_orderOfBytes_95 : decode cX3_orderOfBytes 95 = .ok (.ireturn, 1) := by decide +kernel
theorem dX3_orderOfBytes_25 : decode cX3_orderOfBytes 25 = .ok (.aload_n 0, 1) := by decide +kernel
theorem dX3_orderOfBytes_26 : decode cX3_orderOfBytes 26 = .ok (.getfield 83, 3) := by decide +kernel
theorem dX3_orderOfBytes_29 : decode cX3_orderOfBytes 29 = .ok (.aload_n 0, 1) := by decide +kernel
theorem dX3_orderOfBytes_30 : decode cX3_orderOfBytes 30 = .ok (.getfield 87, 3) := by decide +kernel
theorem dX3_orderOfBytes_33 : decode cX3_orderOfBytes 33 = .ok (.iload_n 1, 1) := by decide +kernel
theorem dX3_orderOfBytes_34 : decode cX3_orderOfBytes 34 = .ok (.iaload, 1) := by decide +kernel
theorem dX3_orderOfBytes_35 : decode cX3_orderOfBytes 35 = .ok (.iload 5, 2) := by decide +kernel
theorem dX3_orderOfBytes_37 : decode cX3_orderOfBytes 37 = .ok (.iadd, 1) := by decide +kernel
theorem dX3_orderOfBytes_38 : decode cX3_orderOfBytes 38 = .ok (.baload, 1) := by decide +kernel
theorem dX3_orderOfBytes_39 : decode cX3_orderOfBytes 39 = .ok (.sipush 255, 3) := by decide +kernel
theorem dX3_orderOfBytes_42 : decode cX3_orderOfBytes 42 = .ok (.iand, 1) := by decide +kernel
theorem dX3_orderOfBytes_43 : decode cX3_orderOfBytes 43 = .ok (.istore 6, 2) := by decide +kernel
theorem dX3_orderOfBytes_45 : decode cX3_orderOfBytes 45 = .ok (.aload_n 2, 1) := by decide +kernel
theorem dX3_orderOfBytes_46 : decode cX3_orderOfBytes 46 = .ok (.getfield 83, 3) := by decide +kernel
theorem dX3_orderOfBytes_49 : decode cX3_orderOfBytes 49 = .ok (.aload_n 2, 1) := by decide +kernel
theorem dX3_orderOfBytes_50 : decode cX3_orderOfBytes 50 = .ok (.getfield 87, 3) := by decide +kernel
theorem dX3_orderOfBytes_53 : decode cX3_orderOfBytes 53 = .ok (.iload_n 3, 1) := by decide +kernel
theorem dX3_orderOfBytes_54 : decode cX3_orderOfBytes 54 = .ok (.iaload, 1) := by decide +kernel
theorem dX3_orderOfBytes_55 : decode cX3_orderOfBytes 55 = .ok (.iload 5, 2) := by decide +kernel
theorem dX3_orderOfBytes_57 : decode cX3_orderOfBytes 57 = .ok (.iadd, 1) := by decide +kernel
theorem dX3_orderOfBytes_58 : decode cX3_orderOfBytes 58 = .ok (.baload, 1) := by decide +kernel
theorem dX3_orderOfBytes_59 : decode cX3_orderOfBytes 59 = .ok (.sipush 255, 3) := by decide +kernel
theorem dX3_orderOfBytes_62 : decode cX3_orderOfBytes 62 = .ok (.iand, 1) := by decide +kernel
theorem dX3_orderOfBytes_63 : decode cX3_orderOfBytes 63 = .ok (.istore 7, 2) := by decide +kernel
theorem dX3_orderOfBytes_65 : decode cX3_orderOfBytes 65 = .ok (.iload 6, 2) := by decide +kernel
theorem dX3_orderOfBytes_67 : decode cX3_orderOfBytes 67 = .ok (.iload 7, 2) := by decide +kernel
theorem dX3_orderOfBytes_69 : decode cX3_orderOfBytes 69 = .ok (.if_icmp .eq 9, 3) := by decide +kernel
theorem dX3_orderOfBytes_78 : decode cX3_orderOfBytes 78 = .ok (.iinc 5 1, 3) := by decide +kernel
theorem dX3_orderOfBytes_81 : decode cX3_orderOfBytes 81 = .ok (.goto (-63), 3) := by decide +kernel
theorem dX3_orderOfBytes_72 : decode cX3_orderOfBytes 72 = .ok (.iload 6, 2) := by decide +kernel
theorem dX3_orderOfBytes_74 : decode cX3_orderOfBytes 74 = .ok (.iload 7, 2) := by decide +kernel
theorem dX3_orderOfBytes_76 : decode cX3_orderOfBytes 76 = .ok (.isub, 1) := by decide +kernel
theorem dX3_orderOfBytes_77 : decode cX3_orderOfBytes 77 = .ok (.ireturn, 1) := by decide +kernel
theorem dX3_orderOfBytes_0 : decode cX3_orderOfBytes 0 = .ok (.aload_n 0, 1) := by decide +kernel
theorem dX3_orderOfBytes_1 : decode cX3_orderOfBytes 1 = .ok (.iload_n 1, 1) := by decide +kernel
theorem dX3_orderOfBytes_2 : decode cX3_orderOfBytes 2 = .ok (.invokevirtual 71, 3) := by decide +kernel
theorem dX3_orderOfBytes_5 : decode cX3_orderOfBytes 5 = .ok (.aload_n 2, 1) := by decide +kernel
theorem dX3_orderOfBytes_6 : decode cX3_orderOfBytes 6 = .ok (.iload_n 3, 1) := by decide +kernel
theorem dX3_orderOfBytes_7 : decode cX3_orderOfBytes 7 = .ok (.invokevirtual 71, 3) := by decide +kernel
theorem lX3_77 : Cond.methodLink RX3 77 Lib.Math.min.name ∈ lw_g := h_t5 233 rfl rfl
theorem dX3_orderOfBytes_10 : decode cX3_orderOfBytes 10 = .ok (.invokestatic 77, 3) := by decide +kernel
theorem dX3_orderOfBytes_13 : decode cX3_orderOfBytes 13 = .ok (.istore 4, 2) := by decide +kernel
theorem dX3_orderOfBytes_15 : decode cX3_orderOfBytes 15 = .ok (.iconst 0, 1) := by decide +kernel
theorem dX3_orderOfBytes_16 : decode cX3_orderOfBytes 16 = .ok (.istore 5, 2) := by decide +kernel
def fb_X3_orderOfBytes_18 (K18 : Nat → Int32 → Nat → Int32 → Int32 → Int32 → uS → Option Int32) (k0 : Nat) (x1 : Int32) (k2 : Nat) (x3 : Int32) (x4 : Int32) (x5 : Int32) (s : uS) : Option Int32 := if x4 ≤ x5 then ((fn_X9_lengthOf k0 x1 s).bind fun v2 => (fn_X9_lengthOf k2 x3 s).bind fun v4 => some (v2 - v4)) else ((iget 20 s (k0 + 2) x1).bind fun v6 => (iget 21 s (k0 + 1) (v6 + x5)).bind fun v8 => (iget 20 s (k2 + 2) x3).bind fun v10 => (iget 21 s (k2 + 1) (v10 + x5)).bind fun v12 => if (v8 &&& 255) = (v12 &&& 255) then (K18 k0 x1 k2 x3 x4 (x5 + 1) s) else (some ((v8 &&& 255) - (v12 &&& 255))))
set_option maxRecDepth 100000 in
set_option maxHeartbeats 4000000 in
theorem xb_X3_orderOfBytes_18 {l : Launch} {D : va_G} {A : Nat → ClassId} {B : Nat} {Z : State → Heap → Prop} {vF : Value} (uk : uK B Z vF) {K18 : Nat → Int32 → Nat → Int32 → Int32 → Int32 → uS → Option Int32} (hK18 : ∀ (k0 : Nat) (x1 : Int32) (k2 : Nat) (x3 : Int32) (x4 : Int32) (x5 : Int32) (hk0 : uSo k0 9) (hk2 : uSo k2 9) (s : uS) (r : Int32), K18 k0 x1 k2 x3 x4 x5 s = some r → GU l D A B Z mX3_orderOfBytes 1 (s, some (.int r)) s 18 [(0, .ref (B + k0)), (1, .int x1), (2, .ref (B + k2)), (3, .int x3), (4, .int x4), (5, .int x5)] []) {k0 : Nat} {x1 : Int32} {k2 : Nat} {x3 : Int32} {x4 : Int32} {x5 : Int32} {s : uS} {r : Int32} (hk0 : uSo k0 9) (hk2 : uSo k2 9) (h : fb_X3_orderOfBytes_18 K18 k0 x1 k2 x3 x4 x5 s = some r) : GU l D A B Z mX3_orderOfBytes 1 (s, some (.int r)) s 18 [(0, .ref (B + k0)), (1, .int x1), (2, .ref (B + k2)), (3, .int x3), (4, .int x4), (5, .int x5)] [] := by
  unfold fb_X3_orderOfBytes_18 at h
  refine uu_iload dX3_orderOfBytes_18 (List.mem_of_getElem? (i := 5) rfl) ?_
  refine uu_iload dX3_orderOfBytes_20 (List.mem_of_getElem? (i := 4) rfl) ?_
  refine uu_icmp_ge (tgt := 84) dX3_orderOfBytes_22 (by decide) (fun c1 => ?_) (fun c1 => ?_)
  · replace h := uu_pos c1 h
    refine uu_aload_n dX3_orderOfBytes_84 rfl (List.mem_of_getElem? (i := 0) rfl) ?_
    refine uu_iload_n dX3_orderOfBytes_85 rfl (List.mem_of_getElem? (i := 1) rfl) ?_
    obtain ⟨v2, e3, h⟩ := uu_ob h
    refine uu_cv (d1 := 0) (k := k0) (ci := 9) (T := TX9) (N := 6) (As := [.int x1]) (st := []) (st' := [.int v2]) (xc_X9_lengthOf uk hk0 e3) hk0.is (by decide) rfl kX9_lengthOf lX3_71 sX9_lengthOf (by decide) (Nat.le_of_ble_eq_true rfl) dX3_orderOfBytes_86 rfl ?_
    refine uu_aload_n dX3_orderOfBytes_89 rfl (List.mem_of_getElem? (i := 2) rfl) ?_
    refine uu_iload_n dX3_orderOfBytes_90 rfl (List.mem_of_getElem? (i := 3) rfl) ?_
    obtain ⟨v4, e5, h⟩ := uu_ob h
    refine uu_cv (d1 := 0) (k := k2) (ci := 9) (T := TX9) (N := 6) (As := [.int x3]) (st := [.int v2]) (st' := [.int v4, .int v2]) (xc_X9_lengthOf uk hk2 e5) hk2.is (by decide) rfl kX9_lengthOf lX3_71 sX9_lengthOf (by decide) (Nat.le_of_ble_eq_true rfl) dX3_orderOfBytes_91 rfl ?_
    refine uu_isub dX3_orderOfBytes_94 ?_
    have hr := Option.some.inj h
    subst hr
    exact uu_iret rfl dX3_orderOfBytes_95
  · replace h := uu_neg c1 h
    refine uu_aload_n dX3_orderOfBytes_25 rfl (List.mem_of_getElem? (i := 0) rfl) ?_
    refine uu_getc (ci := 9) (N := 6) fX3_83 (by decide) hk0.is (by decide) (c := 1) (by decide) (k2 := k0 + 1) rfl dX3_orderOfBytes_26 ?_
    refine uu_aload_n dX3_orderOfBytes_29 rfl (List.mem_of_getElem? (i := 0) rfl) ?_
    refine uu_getc (ci := 9) (N := 6) fX3_87 (by decide) hk0.is (by decide) (c := 2) (by decide) (k2 := k0 + 2) rfl dX3_orderOfBytes_30 ?_
    refine uu_iload_n dX3_orderOfBytes_33 rfl (List.mem_of_getElem? (i := 1) rfl) ?_
    obtain ⟨v6, e7, h⟩ := uu_ob h
    refine uu_iald e7 dX3_orderOfBytes_34 ?_
    refine uu_iload dX3_orderOfBytes_35 (List.mem_of_getElem? (i := 5) rfl) ?_
    refine uu_iadd dX3_orderOfBytes_37 ?_
    obtain ⟨v8, e9, h⟩ := uu_ob h
    refine uu_bald e9 dX3_orderOfBytes_38 ?_
    refine uu_sipush (v := 255) dX3_orderOfBytes_39 (by decide) ?_
    refine uu_iand dX3_orderOfBytes_42 ?_
    refine uu_istore dX3_orderOfBytes_43 (by decide) rfl ?_
    refine uu_aload_n dX3_orderOfBytes_45 rfl (List.mem_of_getElem? (i := 3) rfl) ?_
    refine uu_getc (ci := 9) (N := 6) fX3_83 (by decide) hk2.is (by decide) (c := 1) (by decide) (k2 := k2 + 1) rfl dX3_orderOfBytes_46 ?_
    refine uu_aload_n dX3_orderOfBytes_49 rfl (List.mem_of_getElem? (i := 3) rfl) ?_
    refine uu_getc (ci := 9) (N := 6) fX3_87 (by decide) hk2.is (by decide) (c := 2) (by decide) (k2 := k2 + 2) rfl dX3_orderOfBytes_50 ?_
    refine uu_iload_n dX3_orderOfBytes_53 rfl (List.mem_of_getElem? (i := 4) rfl) ?_
    obtain ⟨v10, e11, h⟩ := uu_ob h
    refine uu_iald e11 dX3_orderOfBytes_54 ?_
    refine uu_iload dX3_orderOfBytes_55 (List.mem_of_getElem? (i := 6) rfl) ?_
    refine uu_iadd dX3_orderOfBytes_57 ?_
    obtain ⟨v12, e13, h⟩ := uu_ob h
    refine uu_bald e13 dX3_orderOfBytes_58 ?_
    refine uu_sipush (v := 255) dX3_orderOfBytes_59 (by decide) ?_
    refine uu_iand dX3_orderOfBytes_62 ?_
    refine uu_istore dX3_orderOfBytes_63 (by decide) rfl ?_
    refine uu_iload dX3_orderOfBytes_65 (List.mem_of_getElem? (i := 1) rfl) ?_
    refine uu_iload dX3_orderOfBytes_67 (List.mem_of_getElem? (i := 0) rfl) ?_
    refine uu_icmp_eq (tgt := 78) dX3_orderOfBytes_69 (by decide) (fun c14 => ?_) (fun c14 => ?_)
    · replace h := uu_pos c14 h
      refine uu_iinc (v := x5 + 1) dX3_orderOfBytes_78 (k := 7) rfl rfl (by decide) rfl ?_
      refine uu_goto (tgt := 18) dX3_orderOfBytes_81 (by decide) ?_
      refine uu_lv [3, 4, 5, 6, 7, 0] (lv' := [(0, .ref (B + k0)), (1, .int x1), (2, .ref (B + k2)), (3, .int x3), (4, .int x4), (5, .int (x5 + 1))]) rfl ?_
      exact hK18 k0 x1 k2 x3 x4 (x5 + 1) hk0 hk2 _ _ h
    · replace h := uu_neg c14 h
      refine uu_iload dX3_orderOfBytes_72 (List.mem_of_getElem? (i := 1) rfl) ?_
      refine uu_iload dX3_orderOfBytes_74 (List.mem_of_getElem? (i := 0) rfl) ?_
      refine uu_isub dX3_orderOfBytes_76 ?_
      have hr := Option.some.inj h
      subst hr
      exact uu_iret rfl dX3_orderOfBytes_77
def fn_X3_orderOfBytes_18  : Nat → Nat → Int32 → Nat → Int32 → Int32 → Int32 → uS → Option Int32
  | 0 => fun _ _ _ _ _ _ _ => none
  | n + 1 => fb_X3_orderOfBytes_18 (fn_X3_orderOfBytes_18  n)
set_option maxRecDepth 100000 in
set_option maxHeartbeats 4000000 in
theorem xn_X3_orderOfBytes_18 {l : Launch} {D : va_G} {A : Nat → ClassId} {B : Nat} {Z : State → Heap → Prop} {vF : Value} (uk : uK B Z vF)   : ∀ (n : Nat) (k0 : Nat) (x1 : Int32) (k2 : Nat) (x3 : Int32) (x4 : Int32) (x5 : Int32) (hk0 : uSo k0 9) (hk2 : uSo k2 9) (s : uS) (r : Int32), fn_X3_orderOfBytes_18  n k0 x1 k2 x3 x4 x5 s = some r → GU l D A B Z mX3_orderOfBytes 1 (s, some (.int r)) s 18 [(0, .ref (B + k0)), (1, .int x1), (2, .ref (B + k2)), (3, .int x3), (4, .int x4), (5, .int x5)] [] := by
  intro n
  induction n with
  | zero => intro k0 x1 k2 x3 x4 x5 hk0 hk2 s r h
            cases h
  | succ n ih => intro k0 x1 k2 x3 x4 x5 hk0 hk2 s r h
                 exact xb_X3_orderOfBytes_18 uk ih hk0 hk2 h
def fn_X3_orderOfBytes (k0 : Nat) (x1 : Int32) (k2 : Nat) (x3 : Int32) (s : uS) : Option Int32 := (fn_X9_lengthOf k0 x1 s).bind fun v1 => (fn_X9_lengthOf k2 x3 s).bind fun v3 => fn_X3_orderOfBytes_18 uFu k0 x1 k2 x3 (if v3 < v1 then v3 else v1) 0 s
set_option maxRecDepth 100000 in
set_option maxHeartbeats 4000000 in
theorem xc_X3_orderOfBytes {l : Launch} {D : va_G} {A : Nat → ClassId} {B : Nat} {Z : State → Heap → Prop} {vF : Value} (uk : uK B Z vF) {k0 : Nat} {x1 : Int32} {k2 : Nat} {x3 : Int32} {s : uS} {r : Int32} (hk0 : uSo k0 9) (hk2 : uSo k2 9) (h : fn_X3_orderOfBytes k0 x1 k2 x3 s = some r) : CU l D A B Z 1 mX3_orderOfBytes s [.ref (B + k0), .int x1, .ref (B + k2), .int x3] (s, some (.int r)) := by
  unfold fn_X3_orderOfBytes at h
  refine cu_of rfl uk.1.1 (Nat.le_of_ble_eq_true rfl) ?_
  show GU _ _ _ _ _ _ _ _ _ 0 [(0, .ref (B + k0)), (1, .int x1), (2, .ref (B + k2)), (3, .int x3)] []
  refine uu_aload_n dX3_orderOfBytes_0 rfl (List.mem_of_getElem? (i := 0) rfl) ?_
  refine uu_iload_n dX3_orderOfBytes_1 rfl (List.mem_of_getElem? (i := 1) rfl) ?_
  obtain ⟨v1, e2, h⟩ := uu_ob h
  refine uu_cv (d1 := 0) (k := k0) (ci := 9) (T := TX9) (N := 6) (As := [.int x1]) (st := []) (st' := [.int v1]) (xc_X9_lengthOf uk hk0 e2) hk0.is (by decide) rfl kX9_lengthOf lX3_71 sX9_lengthOf (by decide) (Nat.le_of_ble_eq_true rfl) dX3_orderOfBytes_2 rfl ?_
  refine uu_aload_n dX3_orderOfBytes_5 rfl (List.mem_of_getElem? (i := 2) rfl) ?_
  refine uu_iload_n dX3_orderOfBytes_6 rfl (List.mem_of_getElem? (i := 3) rfl) ?_
  obtain ⟨v3, e4, h⟩ := uu_ob h
  refine uu_cv (d1 := 0) (k := k2) (ci := 9) (T := TX9) (N := 6) (As := [.int x3]) (st := [.int v1]) (st' := [.int v3, .int v1]) (xc_X9_lengthOf uk hk2 e4) hk2.is (by decide) rfl kX9_lengthOf lX3_71 sX9_lengthOf (by decide) (Nat.le_of_ble_eq_true rfl) dX3_orderOfBytes_7 rfl ?_
  refine uu_mmin lX3_77 (by decide) (Nat.le_of_ble_eq_true rfl) dX3_orderOfBytes_10 ?_
  refine uu_istore dX3_orderOfBytes_13 (by decide) rfl ?_
  refine uu_iconst (v := 0) dX3_orderOfBytes_15 (by decide) ?_
  refine uu_istore dX3_orderOfBytes_16 (by decide) rfl ?_
  refine uu_lv [2, 3, 4, 5, 1, 0] (lv' := [(0, .ref (B + k0)), (1, .int x1), (2, .ref (B + k2)), (3, .int x3), (4, .int (if v3 < v1 then v3 else v1)), (5, .int 0)]) rfl ?_
  exact xn_X3_orderOfBytes_18 uk  _ _ _ _ _ _ _ hk0 hk2 _ _ h
abbrev mX3_stands : hM := (yX3_stands, cX3_stands, 2, (some (.boolean)))
theorem dX3_stands_0 : decode cX3_stands 0 = .ok (.aload_n 0, 1) := by decide +kernel
theorem fX3_68 : h_fl RX3 68 3 7 RX3 TX3 15 := ⟨rfl, by decide, inX3, h_t1 168 rfl rfl⟩
theorem dX3_stands_1 : decode cX3_stands 1 = .ok (.getfield 68, 3) := by decide +kernel
theorem dX3_stands_4 : decode cX3_stands 4 = .ok (.tableswitch 86 0 4 #[36, 46, 56, 66, 76], 36) := by decide +kernel
theorem dX3_stands_40 : decode cX3_stands 40 = .ok (.iload_n 1, 1) := by decide +kernel
theorem dX3_stands_41 : decode cX3_stands 41 = .ok (.ifCond .le 7, 3) := by decide +kernel
theorem dX3_stands_48 : decode cX3_stands 48 = .ok (.iconst 0, 1) := by decide +kernel
theorem dX3_stands_49 : decode cX3_stands 49 = .ok (.ireturn, 1) := by decide +kernel
theorem dX3_stands_44 : decode cX3_stands 44 = .ok (.iconst 1, 1) := by decide +kernel
theorem dX3_stands_45 : decode cX3_stands 45 = .ok (.goto 4, 3) := by decide +kernel
theorem dX3_stands_50 : decode cX3_stands 50 = .ok (.iload_n 1, 1) := by decide +kernel
theorem dX3_stands_51 : decode cX3_stands 51 = .ok (.ifCond .lt 7, 3) := by decide +kernel
theorem dX3_stands_58 : decode cX3_stands 58 = .ok (.iconst 0, 1) := by decide +kernel
theorem dX3_stands_59 : decode cX3_stands 59 = .ok (.ireturn, 1) := by decide +kernel
theorem dX3_stands_54 : decode cX3_stands 54 = .ok (.iconst 1, 1) := by decide +kernel
theorem dX3_stands_55 : decode cX3_stands 55 = .ok (.goto 4, 3) := by decide +kernel
theorem dX3_stands_60 : decode cX3_stands 60 = .ok (.iload_n 1, 1) := by decide +kernel
theorem dX3_stands_61 : decode cX3_stands 61 = .ok (.ifCond .ge 7, 3) := by decide +kernel
theorem dX3_stands_68 : decode cX3_stands 68 = .ok (.iconst 0, 1) := by decide +kernel
theorem dX3_stands_69 : decode cX3_stands 69 = .ok (.ireturn, 1) := by decide +kernel
theorem dX3_stands_64 : decode cX3_stands 64 = .ok (.iconst 1, 1) := by decide +kernel
theorem dX3_stands_65 : decode cX3_stands 65 = .ok (.goto 4, 3) := by decide +kernel
theorem dX3_stands_70 : decode cX3_stands 70 = .ok (.iload_n 1, 1) := by decide +kernel
theorem dX3_stands_71 : decode cX3_stands 71 = .ok (.ifCond .gt 7, 3) := by decide +kernel
theorem dX3_stands_78 : decode cX3_stands 78 = .ok (.iconst 0, 1) := by decide +kernel
theorem dX3_stands_79 : decode cX3_stands 79 = .ok (.ireturn, 1) := by decide +kernel
theorem dX3_stands_74 : decode cX3_stands 74 = .ok (.iconst 1, 1) := by decide +kernel
theorem dX3_stands_75 : decode cX3_stands 75 = .ok (.goto 4, 3) := by decide +kernel
theorem dX3_stands_80 : decode cX3_stands 80 = .ok (.iload_n 1, 1) := by decide +kernel
theorem dX3_stands_81 : decode cX3_stands 81 = .ok (.ifCond .ne 7, 3) := by decide +kernel
theorem dX3_stands_88 : decode cX3_stands 88 = .ok (.iconst 0, 1) := by decide +kernel
theorem dX3_stands_89 : decode cX3_stands 89 = .ok (.ireturn, 1) := by decide +kernel
theorem dX3_stands_84 : decode cX3_stands 84 = .ok (.iconst 1, 1) := by decide +kernel
theorem dX3_stands_85 : decode cX3_stands 85 = .ok (.goto 4, 3) := by decide +kernel
theorem dX3_stands_90 : decode cX3_stands 90 = .ok (.iload_n 1, 1) := by decide +kernel
theorem dX3_stands_91 : decode cX3_stands 91 = .ok (.ifCond .eq 7, 3) := by decide +kernel
theorem dX3_stands_98 : decode cX3_stands 98 = .ok (.iconst 0, 1) := by decide +kernel
theorem dX3_stands_99 : decode cX3_stands 99 = .ok (.ireturn, 1) := by decide +kernel
theorem dX3_stands_94 : decode cX3_stands 94 = .ok (.iconst 1, 1) := by decide +kernel
theorem dX3_stands_95 : decode cX3_stands 95 = .ok (.goto 4, 3) := by decide +kernel
def fn_X3_stands (k0 : Nat) (x1 : Int32) (s : uS) : Option Bool := if (s.I k0 7) = 0 then (if x1 ≤ 0 then (some false) else (some true)) else (if (s.I k0 7) = 1 then (if x1 < 0 then (some false) else (some true)) else (if (s.I k0 7) = 2 then (if 0 ≤ x1 then (some false) else (some true)) else (if (s.I k0 7) = 3 then (if 0 < x1 then (some false) else (some true)) else (if (s.I k0 7) = 4 then (if x1 = 0 then (some true) else (some false)) else (if x1 = 0 then (some false) else (some true))))))
set_option maxRecDepth 100000 in
set_option maxHeartbeats 4000000 in
theorem xc_X3_stands {l : Launch} {D : va_G} {A : Nat → ClassId} {B : Nat} {Z : State → Heap → Prop} {vF : Value} (uk : uK B Z vF) {k0 : Nat} {x1 : Int32} {s : uS} {r : Bool} (hk0 : uSo k0 3) (h : fn_X3_stands k0 x1 s = some r) : CU l D A B Z 0 mX3_stands s [.ref (B + k0), .int x1] (s, some (.int (bI r))) := by
  unfold fn_X3_stands at h
  refine cu_of rfl uk.1.1 (Nat.le_of_ble_eq_true rfl) ?_
  show GU _ _ _ _ _ _ _ _ _ 0 [(0, .ref (B + k0)), (1, .int x1)] []
  refine uu_aload_n dX3_stands_0 rfl (List.mem_of_getElem? (i := 0) rfl) ?_
  refine uu_geti (ci := 3) (N := 15) fX3_68 (by decide) hk0.is (by decide) (by decide) dX3_stands_1 ?_
  by_cases c4_0 : (s.I k0 7) = 0
  · replace h := uu_pos c4_0 h
    refine uu_tabE (tgt := 40) (off := 36) (v := 0) dX3_stands_4 c4_0 (by decide) (by decide) rfl (by decide) ?_
    refine uu_iload_n dX3_stands_40 rfl (List.mem_of_getElem? (i := 1) rfl) ?_
    refine uu_if_le (tgt := 48) dX3_stands_41 (by decide) (fun c1 => ?_) (fun c1 => ?_)
    · replace h := uu_pos c1 h
      refine uu_iconst (v := 0) dX3_stands_48 (by decide) ?_
      have hr := Option.some.inj h
      subst hr
      exact uu_zret (x := bI false) rfl (bI_z _) dX3_stands_49
    · replace h := uu_neg c1 h
      refine uu_iconst (v := 1) dX3_stands_44 (by decide) ?_
      refine uu_goto (tgt := 49) dX3_stands_45 (by decide) ?_
      have hr := Option.some.inj h
      subst hr
      exact uu_zret (x := bI true) rfl (bI_z _) dX3_stands_49
  replace h := uu_neg c4_0 h
  by_cases c4_1 : (s.I k0 7) = 1
  · replace h := uu_pos c4_1 h
    refine uu_tabE (tgt := 50) (off := 46) (v := 1) dX3_stands_4 c4_1 (by decide) (by decide) rfl (by decide) ?_
    refine uu_iload_n dX3_stands_50 rfl (List.mem_of_getElem? (i := 1) rfl) ?_
    refine uu_if_lt (tgt := 58) dX3_stands_51 (by decide) (fun c2 => ?_) (fun c2 => ?_)
    · replace h := uu_pos c2 h
      refine uu_iconst (v := 0) dX3_stands_58 (by decide) ?_
      have hr := Option.some.inj h
      subst hr
      exact uu_zret (x := bI false) rfl (bI_z _) dX3_stands_59
    · replace h := uu_neg c2 h
      refine uu_iconst (v := 1) dX3_stands_54 (by decide) ?_
      refine uu_goto (tgt := 59) dX3_stands_55 (by decide) ?_
      have hr := Option.some.inj h
      subst hr
      exact uu_zret (x := bI true) rfl (bI_z _) dX3_stands_59
  replace h := uu_neg c4_1 h
  by_cases c4_2 : (s.I k0 7) = 2
  · replace h := uu_pos c4_2 h
    refine uu_tabE (tgt := 60) (off := 56) (v := 2) dX3_stands_4 c4_2 (by decide) (by decide) rfl (by decide) ?_
    refine uu_iload_n dX3_stands_60 rfl (List.mem_of_getElem? (i := 1) rfl) ?_
    refine uu_if_ge (tgt := 68) dX3_stands_61 (by decide) (fun c3 => ?_) (fun c3 => ?_)
    · replace h := uu_pos c3 h
      refine uu_iconst (v := 0) dX3_stands_68 (by decide) ?_
      have hr := Option.some.inj h
      subst hr
      exact uu_zret (x := bI false) rfl (bI_z _) dX3_stands_69
    · replace h := uu_neg c3 h
      refine uu_iconst (v := 1) dX3_stands_64 (by decide) ?_
      refine uu_goto (tgt := 69) dX3_stands_65 (by decide) ?_
      have hr := Option.some.inj h
      subst hr
      exact uu_zret (x := bI true) rfl (bI_z _) dX3_stands_69
  replace h := uu_neg c4_2 h
  by_cases c4_3 : (s.I k0 7) = 3
  · replace h := uu_pos c4_3 h
    refine uu_tabE (tgt := 70) (off := 66) (v := 3) dX3_stands_4 c4_3 (by decide) (by decide) rfl (by decide) ?_
    refine uu_iload_n dX3_stands_70 rfl (List.mem_of_getElem? (i := 1) rfl) ?_
    refine uu_if_gt (tgt := 78) dX3_stands_71 (by decide) (fun c4 => ?_) (fun c4 => ?_)
    · replace h := uu_pos c4 h
      refine uu_iconst (v := 0) dX3_stands_78 (by decide) ?_
      have hr := Option.some.inj h
      subst hr
      exact uu_zret (x := bI false) rfl (bI_z _) dX3_stands_79
    · replace h := uu_neg c4 h
      refine uu_iconst (v := 1) dX3_stands_74 (by decide) ?_
      refine uu_goto (tgt := 79) dX3_stands_75 (by decide) ?_
      have hr := Option.some.inj h
      subst hr
      exact uu_zret (x := bI true) rfl (bI_z _) dX3_stands_79
  replace h := uu_neg c4_3 h
  by_cases c4_4 : (s.I k0 7) = 4
  · replace h := uu_pos c4_4 h
    refine uu_tabE (tgt := 80) (off := 76) (v := 4) dX3_stands_4 c4_4 (by decide) (by decide) rfl (by decide) ?_
    refine uu_iload_n dX3_stands_80 rfl (List.mem_of_getElem? (i := 1) rfl) ?_
    refine uu_if_ne (tgt := 88) dX3_stands_81 (by decide) (fun c5 => ?_) (fun c5 => ?_)
    · replace h := uu_neg c5 h
      refine uu_iconst (v := 0) dX3_stands_88 (by decide) ?_
      have hr := Option.some.inj h
      subst hr
      exact uu_zret (x := bI false) rfl (bI_z _) dX3_stands_89
    · replace h := uu_pos c5 h
      refine uu_iconst (v := 1) dX3_stands_84 (by decide) ?_
      refine uu_goto (tgt := 89) dX3_stands_85 (by decide) ?_
      have hr := Option.some.inj h
      subst hr
      exact uu_zret (x := bI true) rfl (bI_z _) dX3_stands_89
  replace h := uu_neg c4_4 h
  have cx4 : (s.I k0 7).toInt < 0 ∨ 4 < (s.I k0 7).toInt := by
    refine Decidable.byContradiction fun q => ?_
    rcases (show (s.I k0 7).toInt = 0 ∨ (s.I k0 7).toInt = 1 ∨ (s.I k0 7).toInt = 2 ∨ (s.I k0 7).toInt = 3 ∨ (s.I k0 7).toInt = 4 by omega) with q | q | q | q | q
    · exact c4_0 (sw_eq q (by decide))
    · exact c4_1 (sw_eq q (by decide))
    · exact c4_2 (sw_eq q (by decide))
    · exact c4_3 (sw_eq q (by decide))
    · exact c4_4 (sw_eq q (by decide))
  refine uu_tableOut (tgt := 90) dX3_stands_4 cx4 (by decide) ?_
  refine uu_iload_n dX3_stands_90 rfl (List.mem_of_getElem? (i := 1) rfl) ?_
  refine uu_if_eq (tgt := 98) dX3_stands_91 (by decide) (fun c6 => ?_) (fun c6 => ?_)
  · replace h := uu_pos c6 h
    refine uu_iconst (v := 0) dX3_stands_98 (by decide) ?_
    have hr := Option.some.inj h
    subst hr
    exact uu_zret (x := bI false) rfl (bI_z _) dX3_stands_99
  · replace h := uu_neg c6 h
    refine uu_iconst (v := 1) dX3_stands_94 (by decide) ?_
    refine uu_goto (tgt := 99) dX3_stands_95 (by decide) ?_
    have hr := Option.some.inj h
    subst hr
    exact uu_zret (x := bI true) rfl (bI_z _) dX3_stands_99
abbrev mX3_isMatch : hM := (yX3_isMatch, cX3_isMatch, 6, (some (.boolean)))
theorem dX3_isMatch_93 : decode cX3_isMatch 93 = .ok (.istore 5, 2) := by decide +kernel
theorem dX3_isMatch_95 : decode cX3_isMatch 95 = .ok (.aload_n 0, 1) := by decide +kernel
theorem fX3_29 : h_fl RX3 29 3 6 RX3 TX3 15 := ⟨rfl, by decide, inX3, h_t1 165 rfl rfl⟩
theorem dX3_isMatch_96 : decode cX3_isMatch 96 = .ok (.getfield 29, 3) := by decide +kernel
theorem dX3_isMatch_99 : decode cX3_isMatch 99 = .ok (.ifCond .ne 16, 3) := by decide +kernel
theorem dX3_isMatch_115 : decode cX3_isMatch 115 = .ok (.aload_n 0, 1) := by decide +kernel
theorem dX3_isMatch_116 : decode cX3_isMatch 116 = .ok (.iload 5, 2) := by decide +kernel
theorem kX3_stands : h_ml mX3_stands 1 := ⟨h_t5 217 rfl rfl, h_t1 5 rfl rfl, ⟨by decide, by decide, by decide +kernel⟩, by decide⟩
theorem lX3_65 : Cond.methodLink RX3 65 mX3_stands.1 ∈ lw_g := h_t5 234 rfl rfl
theorem sX3_stands : Cond.instanceMethod mX3_stands.1 ∈ lw_g ∧ Cond.selects mX3_stands.1.cls mX3_stands.1 mX3_stands.1 ∈ lw_g := ⟨h_t5 215 rfl rfl, h_t5 216 rfl rfl⟩
theorem dX3_isMatch_118 : decode cX3_isMatch 118 = .ok (.invokevirtual 65, 3) := by decide +kernel
theorem dX3_isMatch_121 : decode cX3_isMatch 121 = .ok (.ireturn, 1) := by decide +kernel
theorem dX3_isMatch_102 : decode cX3_isMatch 102 = .ok (.iload 5, 2) := by decide +kernel
theorem dX3_isMatch_104 : decode cX3_isMatch 104 = .ok (.ifCond .ne 7, 3) := by decide +kernel
theorem dX3_isMatch_111 : decode cX3_isMatch 111 = .ok (.iconst 0, 1) := by decide +kernel
theorem dX3_isMatch_112 : decode cX3_isMatch 112 = .ok (.goto 9, 3) := by decide +kernel
theorem dX3_isMatch_107 : decode cX3_isMatch 107 = .ok (.iconst 1, 1) := by decide +kernel
theorem dX3_isMatch_108 : decode cX3_isMatch 108 = .ok (.goto 13, 3) := by decide +kernel
theorem dX3_isMatch_0 : decode cX3_isMatch 0 = .ok (.aload_n 0, 1) := by decide +kernel
theorem dX3_isMatch_1 : decode cX3_isMatch 1 = .ok (.getfield 29, 3) := by decide +kernel
theorem dX3_isMatch_4 : decode cX3_isMatch 4 = .ok (.iconst 1, 1) := by decide +kernel
theorem dX3_isMatch_5 : decode cX3_isMatch 5 = .ok (.if_icmp .ne 28, 3) := by decide +kernel
theorem dX3_isMatch_33 : decode cX3_isMatch 33 = .ok (.aload_n 0, 1) := by decide +kernel
theorem dX3_isMatch_34 : decode cX3_isMatch 34 = .ok (.getfield 29, 3) := by decide +kernel
theorem dX3_isMatch_37 : decode cX3_isMatch 37 = .ok (.iconst 2, 1) := by decide +kernel
theorem dX3_isMatch_38 : decode cX3_isMatch 38 = .ok (.if_icmp .ne 28, 3) := by decide +kernel
theorem dX3_isMatch_66 : decode cX3_isMatch 66 = .ok (.aload_n 0, 1) := by decide +kernel
theorem fX3_32 : h_fl RX3 32 3 8 RX3 TX3 15 := ⟨rfl, by decide, inX3, h_t1 170 rfl rfl⟩
theorem dX3_isMatch_67 : decode cX3_isMatch 67 = .ok (.getfield 32, 3) := by decide +kernel
theorem dX3_isMatch_70 : decode cX3_isMatch 70 = .ok (.iconst 2, 1) := by decide +kernel
theorem dX3_isMatch_71 : decode cX3_isMatch 71 = .ok (.if_icmp .ne 14, 3) := by decide +kernel
theorem dX3_isMatch_85 : decode cX3_isMatch 85 = .ok (.aload_n 1, 1) := by decide +kernel
theorem dX3_isMatch_86 : decode cX3_isMatch 86 = .ok (.iload_n 2, 1) := by decide +kernel
theorem dX3_isMatch_87 : decode cX3_isMatch 87 = .ok (.aload_n 3, 1) := by decide +kernel
theorem dX3_isMatch_88 : decode cX3_isMatch 88 = .ok (.iload 4, 2) := by decide +kernel
theorem kX3_orderOfBytes : h_ml mX3_orderOfBytes 4 := ⟨h_t5 232 rfl rfl, h_t1 5 rfl rfl, ⟨by decide, by decide, by decide +kernel⟩, by decide⟩
theorem lX3_62 : Cond.methodLink RX3 62 mX3_orderOfBytes.1 ∈ lw_g := h_t5 230 rfl rfl
theorem sX3_orderOfBytes : Cond.static mX3_orderOfBytes.1 ∈ lw_g := h_t5 231 rfl rfl
theorem dX3_isMatch_90 : decode cX3_isMatch 90 = .ok (.invokestatic 62, 3) := by decide +kernel
theorem dX3_isMatch_74 : decode cX3_isMatch 74 = .ok (.aload_n 1, 1) := by decide +kernel
theorem dX3_isMatch_75 : decode cX3_isMatch 75 = .ok (.iload_n 2, 1) := by decide +kernel
theorem dX3_isMatch_76 : decode cX3_isMatch 76 = .ok (.aload_n 3, 1) := by decide +kernel
theorem dX3_isMatch_77 : decode cX3_isMatch 77 = .ok (.iload 4, 2) := by decide +kernel
theorem kX3_orderOfNumbers : h_ml mX3_orderOfNumbers 4 := ⟨h_t5 210 rfl rfl, h_t1 5 rfl rfl, ⟨by decide, by decide, by decide +kernel⟩, by decide⟩
theorem lX3_58 : Cond.methodLink RX3 58 mX3_orderOfNumbers.1 ∈ lw_g := h_t5 229 rfl rfl
theorem sX3_orderOfNumbers : Cond.static mX3_orderOfNumbers.1 ∈ lw_g := h_t5 209 rfl rfl
theorem dX3_isMatch_79 : decode cX3_isMatch 79 = .ok (.invokestatic 58, 3) := by decide +kernel
theorem dX3_isMatch_82 : decode cX3_isMatch 82 = .ok (.goto 11, 3) := by decide +kernel
theorem dX3_isMatch_41 : decode cX3_isMatch 41 = .ok (.aload_n 0, 1) := by decide +kernel
theorem dX3_isMatch_42 : decode cX3_isMatch 42 = .ok (.getfield 32, 3) := by decide +kernel
theorem dX3_isMatch_45 : decode cX3_isMatch 45 = .ok (.iconst 2, 1) := by decide +kernel
theorem dX3_isMatch_46 : decode cX3_isMatch 46 = .ok (.if_icmp .eq 18, 3) := by decide +kernel
theorem dX3_isMatch_64 : decode cX3_isMatch 64 = .ok (.iconst 0, 1) := by decide +kernel
theorem dX3_isMatch_65 : decode cX3_isMatch 65 = .ok (.ireturn, 1) := by decide +kernel
theorem dX3_isMatch_49 : decode cX3_isMatch 49 = .ok (.aload_n 1, 1) := by decide +kernel
theorem dX3_isMatch_50 : decode cX3_isMatch 50 = .ok (.iload_n 2, 1) := by decide +kernel
theorem dX3_isMatch_51 : decode cX3_isMatch 51 = .ok (.aload_n 3, 1) := by decide +kernel
theorem dX3_isMatch_52 : decode cX3_isMatch 52 = .ok (.iload 4, 2) := by decide +kernel
theorem kX3_isPattern : h_ml mX3_isPattern 4 := ⟨h_t5 228 rfl rfl, h_t1 5 rfl rfl, ⟨by decide, by decide, by decide +kernel⟩, by decide⟩
theorem lX3_55 : Cond.methodLink RX3 55 mX3_isPattern.1 ∈ lw_g := h_t5 226 rfl rfl
theorem sX3_isPattern : Cond.static mX3_isPattern.1 ∈ lw_g := h_t5 227 rfl rfl
theorem dX3_isMatch_54 : decode cX3_isMatch 54 = .ok (.invokestatic 55, 3) := by decide +kernel
theorem dX3_isMatch_57 : decode cX3_isMatch 57 = .ok (.ifCond .eq 7, 3) := by decide +kernel
theorem dX3_isMatch_60 : decode cX3_isMatch 60 = .ok (.iconst 1, 1) := by decide +kernel
theorem dX3_isMatch_61 : decode cX3_isMatch 61 = .ok (.goto 4, 3) := by decide +kernel
theorem dX3_isMatch_8 : decode cX3_isMatch 8 = .ok (.aload_n 0, 1) := by decide +kernel
theorem dX3_isMatch_9 : decode cX3_isMatch 9 = .ok (.getfield 32, 3) := by decide +kernel
theorem dX3_isMatch_12 : decode cX3_isMatch 12 = .ok (.iconst 2, 1) := by decide +kernel
theorem dX3_isMatch_13 : decode cX3_isMatch 13 = .ok (.if_icmp .eq 18, 3) := by decide +kernel
theorem dX3_isMatch_31 : decode cX3_isMatch 31 = .ok (.iconst 0, 1) := by decide +kernel
theorem dX3_isMatch_32 : decode cX3_isMatch 32 = .ok (.ireturn, 1) := by decide +kernel
theorem dX3_isMatch_16 : decode cX3_isMatch 16 = .ok (.aload_n 1, 1) := by decide +kernel
theorem dX3_isMatch_17 : decode cX3_isMatch 17 = .ok (.iload_n 2, 1) := by decide +kernel
theorem dX3_isMatch_18 : decode cX3_isMatch 18 = .ok (.aload_n 3, 1) := by decide +kernel
theorem dX3_isMatch_19 : decode cX3_isMatch 19 = .ok (.iload 4, 2) := by decide +kernel
theorem kX3_isWithin : h_ml mX3_isWithin 4 := ⟨h_t5 224 rfl rfl, h_t1 5 rfl rfl, ⟨by decide, by decide, by decide +kernel⟩, by decide⟩
theorem lX3_51 : Cond.methodLink RX3 51 mX3_isWithin.1 ∈ lw_g := h_t5 222 rfl rfl
theorem sX3_isWithin : Cond.static mX3_isWithin.1 ∈ lw_g := h_t5 223 rfl rfl
theorem dX3_isMatch_21 : decode cX3_isMatch 21 = .ok (.invokestatic 51, 3) := by decide +kernel
theorem dX3_isMatch_24 : decode cX3_isMatch 24 = .ok (.ifCond .eq 7, 3) := by decide +kernel
theorem dX3_isMatch_27 : decode cX3_isMatch 27 = .ok (.iconst 1, 1) := by decide +kernel
theorem dX3_isMatch_28 : decode cX3_isMatch 28 = .ok (.goto 4, 3) := by decide +kernel
def fb_X3_isMatch_93  (k0 : Nat) (xs0 : Int32) (s : uS) : Option Bool := if (s.I k0 6) = 0 then (if xs0 = 0 then (some true) else (some false)) else ((fn_X3_stands k0 xs0 s).bind fun v2 => some v2)
set_option maxRecDepth 100000 in
set_option maxHeartbeats 4000000 in
theorem xb_X3_isMatch_93 {l : Launch} {D : va_G} {A : Nat → ClassId} {B : Nat} {Z : State → Heap → Prop} {vF : Value} (uk : uK B Z vF)   {k0 : Nat} {xs0 : Int32} {s : uS} {r : Bool} (hk0 : uSo k0 3) (h : fb_X3_isMatch_93  k0 xs0 s = some r) : GU l D A B Z mX3_isMatch 2 (s, some (.int (bI r))) s 93 [(0, .ref (B + k0))] [.int xs0] := by
  unfold fb_X3_isMatch_93 at h
  refine uu_istore dX3_isMatch_93 (by decide) rfl ?_
  refine uu_aload_n dX3_isMatch_95 rfl (List.mem_of_getElem? (i := 1) rfl) ?_
  refine uu_geti (ci := 3) (N := 15) fX3_29 (by decide) hk0.is (by decide) (by decide) dX3_isMatch_96 ?_
  refine uu_if_ne (tgt := 115) dX3_isMatch_99 (by decide) (fun c1 => ?_) (fun c1 => ?_)
  · replace h := uu_neg c1 h
    refine uu_aload_n dX3_isMatch_115 rfl (List.mem_of_getElem? (i := 1) rfl) ?_
    refine uu_iload dX3_isMatch_116 (List.mem_of_getElem? (i := 0) rfl) ?_
    obtain ⟨v2, e3, h⟩ := uu_ob h
    refine uu_cv (d1 := 0) (k := k0) (ci := 3) (T := TX3) (N := 15) (As := [.int xs0]) (st := []) (st' := [.int (bI v2)]) (xc_X3_stands uk hk0 e3) hk0.is (by decide) rfl kX3_stands lX3_65 sX3_stands (by decide) (Nat.le_of_ble_eq_true rfl) dX3_isMatch_118 rfl ?_
    have hr := Option.some.inj h
    subst hr
    exact uu_zret (x := bI v2) rfl (bI_z _) dX3_isMatch_121
  · replace h := uu_pos c1 h
    refine uu_iload dX3_isMatch_102 (List.mem_of_getElem? (i := 0) rfl) ?_
    refine uu_if_ne (tgt := 111) dX3_isMatch_104 (by decide) (fun c4 => ?_) (fun c4 => ?_)
    · replace h := uu_neg c4 h
      refine uu_iconst (v := 0) dX3_isMatch_111 (by decide) ?_
      refine uu_goto (tgt := 121) dX3_isMatch_112 (by decide) ?_
      have hr := Option.some.inj h
      subst hr
      exact uu_zret (x := bI false) rfl (bI_z _) dX3_isMatch_121
    · replace h := uu_pos c4 h
      refine uu_iconst (v := 1) dX3_isMatch_107 (by decide) ?_
      refine uu_goto (tgt := 121) dX3_isMatch_108 (by decide) ?_
      have hr := Option.some.inj h
      subst hr
      exact uu_zret (x := bI true) rfl (bI_z _) dX3_isMatch_121
def fn_X3_isMatch (k0 : Nat) (k1 : Nat) (x2 : Int32) (k3 : Nat) (x4 : Int32) (s : uS) : Option Bool := if (s.I k0 6) = 1 then (if (s.I k0 8) = 2 then (some false) else ((fn_X3_isWithin k1 x2 k3 x4 s).bind fun v13 => if v13 = true then (some true) else (some false))) else (if (s.I k0 6) = 2 then (if (s.I k0 8) = 2 then (some false) else ((fn_X3_isPattern k1 x2 k3 x4 s).bind fun v9 => if v9 = true then (some true) else (some false))) else (if (s.I k0 8) = 2 then ((fn_X3_orderOfNumbers k1 x2 k3 x4 s).bind fun v6 => fb_X3_isMatch_93 k0 v6 s) else ((fn_X3_orderOfBytes k1 x2 k3 x4 s).bind fun v4 => fb_X3_isMatch_93 k0 v4 s)))
set_option maxRecDepth 100000 in
set_option maxHeartbeats 4000000 in
theorem xc_X3_isMatch {l : Launch} {D : va_G} {A : Nat → ClassId} {B : Nat} {Z : State → Heap → Prop} {vF : Value} (uk : uK B Z vF) {k0 : Nat} {k1 : Nat} {x2 : Int32} {k3 : Nat} {x4 : Int32} {s : uS} {r : Bool} (hk0 : uSo k0 3) (hk1 : uSo k1 9) (hk3 : uSo k3 9) (h : fn_X3_isMatch k0 k1 x2 k3 x4 s = some r) : CU l D A B Z 2 mX3_isMatch s [.ref (B + k0), .ref (B + k1), .int x2, .ref (B + k3), .int x4] (s, some (.int (bI r))) := by
  unfold fn_X3_isMatch at h
  refine cu_of rfl uk.1.1 (Nat.le_of_ble_eq_true rfl) ?_
  show GU _ _ _ _ _ _ _ _ _ 0 [(0, .ref (B + k0)), (1, .ref (B + k1)), (2, .int x2), (3, .ref (B + k3)), (4, .int x4)] []
  refine uu_aload_n dX3_isMatch_0 rfl (List.mem_of_getElem? (i := 0) rfl) ?_
  refine uu_geti (ci := 3) (N := 15) fX3_29 (by decide) hk0.is (by decide) (by decide) dX3_isMatch_1 ?_
  refine uu_iconst (v := 1) dX3_isMatch_4 (by decide) ?_
  refine uu_icmp_ne (tgt := 33) dX3_isMatch_5 (by decide) (fun c1 => ?_) (fun c1 => ?_)
  · replace h := uu_neg c1 h
    refine uu_aload_n dX3_isMatch_33 rfl (List.mem_of_getElem? (i := 0) rfl) ?_
    refine uu_geti (ci := 3) (N := 15) fX3_29 (by decide) hk0.is (by decide) (by decide) dX3_isMatch_34 ?_
    refine uu_iconst (v := 2) dX3_isMatch_37 (by decide) ?_
    refine uu_icmp_ne (tgt := 66) dX3_isMatch_38 (by decide) (fun c2 => ?_) (fun c2 => ?_)
    · replace h := uu_neg c2 h
      refine uu_aload_n dX3_isMatch_66 rfl (List.mem_of_getElem? (i := 0) rfl) ?_
      refine uu_geti (ci := 3) (N := 15) fX3_32 (by decide) hk0.is (by decide) (by decide) dX3_isMatch_67 ?_
      refine uu_iconst (v := 2) dX3_isMatch_70 (by decide) ?_
      refine uu_icmp_ne (tgt := 85) dX3_isMatch_71 (by decide) (fun c3 => ?_) (fun c3 => ?_)
      · replace h := uu_neg c3 h
        refine uu_aload_n dX3_isMatch_85 rfl (List.mem_of_getElem? (i := 1) rfl) ?_
        refine uu_iload_n dX3_isMatch_86 rfl (List.mem_of_getElem? (i := 2) rfl) ?_
        refine uu_aload_n dX3_isMatch_87 rfl (List.mem_of_getElem? (i := 3) rfl) ?_
        refine uu_iload dX3_isMatch_88 (List.mem_of_getElem? (i := 4) rfl) ?_
        obtain ⟨v4, e5, h⟩ := uu_ob h
        refine uu_cs (d1 := 1) (As := [.ref (B + k1), .int x2, .ref (B + k3), .int x4]) (st := []) (st' := [.int v4]) (xc_X3_orderOfBytes uk hk1 hk3 e5) kX3_orderOfBytes lX3_62 sX3_orderOfBytes (by decide) (Nat.le_of_ble_eq_true rfl) dX3_isMatch_90 rfl ?_
        refine uu_lv [0] (lv' := [(0, .ref (B + k0))]) rfl ?_
        exact xb_X3_isMatch_93 uk hk0 h
      · replace h := uu_pos c3 h
        refine uu_aload_n dX3_isMatch_74 rfl (List.mem_of_getElem? (i := 1) rfl) ?_
        refine uu_iload_n dX3_isMatch_75 rfl (List.mem_of_getElem? (i := 2) rfl) ?_
        refine uu_aload_n dX3_isMatch_76 rfl (List.mem_of_getElem? (i := 3) rfl) ?_
        refine uu_iload dX3_isMatch_77 (List.mem_of_getElem? (i := 4) rfl) ?_
        obtain ⟨v6, e7, h⟩ := uu_ob h
        refine uu_cs (d1 := 1) (As := [.ref (B + k1), .int x2, .ref (B + k3), .int x4]) (st := []) (st' := [.int v6]) (xc_X3_orderOfNumbers uk hk1 hk3 e7) kX3_orderOfNumbers lX3_58 sX3_orderOfNumbers (by decide) (Nat.le_of_ble_eq_true rfl) dX3_isMatch_79 rfl ?_
        refine uu_goto (tgt := 93) dX3_isMatch_82 (by decide) ?_
        refine uu_lv [0] (lv' := [(0, .ref (B + k0))]) rfl ?_
        exact xb_X3_isMatch_93 uk hk0 h
    · replace h := uu_pos c2 h
      refine uu_aload_n dX3_isMatch_41 rfl (List.mem_of_getElem? (i := 0) rfl) ?_
      refine uu_geti (ci := 3) (N := 15) fX3_32 (by decide) hk0.is (by decide) (by decide) dX3_isMatch_42 ?_
      refine uu_iconst (v := 2) dX3_isMatch_45 (by decide) ?_
      refine uu_icmp_eq (tgt := 64) dX3_isMatch_46 (by decide) (fun c8 => ?_) (fun c8 => ?_)
      · replace h := uu_pos c8 h
        refine uu_iconst (v := 0) dX3_isMatch_64 (by decide) ?_
        have hr := Option.some.inj h
        subst hr
        exact uu_zret (x := bI false) rfl (bI_z _) dX3_isMatch_65
      · replace h := uu_neg c8 h
        refine uu_aload_n dX3_isMatch_49 rfl (List.mem_of_getElem? (i := 1) rfl) ?_
        refine uu_iload_n dX3_isMatch_50 rfl (List.mem_of_getElem? (i := 2) rfl) ?_
        refine uu_aload_n dX3_isMatch_51 rfl (List.mem_of_getElem? (i := 3) rfl) ?_
        refine uu_iload dX3_isMatch_52 (List.mem_of_getElem? (i := 4) rfl) ?_
        obtain ⟨v9, e10, h⟩ := uu_ob h
        refine uu_cs (d1 := 1) (As := [.ref (B + k1), .int x2, .ref (B + k3), .int x4]) (st := []) (st' := [.int (bI v9)]) (xc_X3_isPattern uk hk1 hk3 e10) kX3_isPattern lX3_55 sX3_isPattern (by decide) (Nat.le_of_ble_eq_true rfl) dX3_isMatch_54 rfl ?_
        refine uu_ifb_eq (tgt := 64) dX3_isMatch_57 (by decide) (fun c11 => ?_) (fun c11 => ?_)
        · replace h := uu_neg c11 h
          refine uu_iconst (v := 0) dX3_isMatch_64 (by decide) ?_
          have hr := Option.some.inj h
          subst hr
          exact uu_zret (x := bI false) rfl (bI_z _) dX3_isMatch_65
        · replace h := uu_pos c11 h
          refine uu_iconst (v := 1) dX3_isMatch_60 (by decide) ?_
          refine uu_goto (tgt := 65) dX3_isMatch_61 (by decide) ?_
          have hr := Option.some.inj h
          subst hr
          exact uu_zret (x := bI true) rfl (bI_z _) dX3_isMatch_65
  · replace h := uu_pos c1 h
    refine uu_aload_n dX3_isMatch_8 rfl (List.mem_of_getElem? (i := 0) rfl) ?_
    refine uu_geti (ci := 3) (N := 15) fX3_32 (by decide) hk0.is (by decide) (by decide) dX3_isMatch_9 ?_
    refine uu_iconst (v := 2) dX3_isMatch_12 (by decide) ?_
    refine uu_icmp_eq (tgt := 31) dX3_isMatch_13 (by decide) (fun c12 => ?_) (fun c12 => ?_)
    · replace h := uu_pos c12 h
      refine uu_iconst (v := 0) dX3_isMatch_31 (by decide) ?_
      have hr := Option.some.inj h
      subst hr
      exact uu_zret (x := bI false) rfl (bI_z _) dX3_isMatch_32
    · replace h := uu_neg c12 h
      refine uu_aload_n dX3_isMatch_16 rfl (List.mem_of_getElem? (i := 1) rfl) ?_
      refine uu_iload_n dX3_isMatch_17 rfl (List.mem_of_getElem? (i := 2) rfl) ?_
      refine uu_aload_n dX3_isMatch_18 rfl (List.mem_of_getElem? (i := 3) rfl) ?_
      refine uu_iload dX3_isMatch_19 (List.mem_of_getElem? (i := 4) rfl) ?_
      obtain ⟨v13, e14, h⟩ := uu_ob h
      refine uu_cs (d1 := 1) (As := [.ref (B + k1), .int x2, .ref (B + k3), .int x4]) (st := []) (st' := [.int (bI v13)]) (xc_X3_isWithin uk hk1 hk3 e14) kX3_isWithin lX3_51 sX3_isWithin (by decide) (Nat.le_of_ble_eq_true rfl) dX3_isMatch_21 rfl ?_
      refine uu_ifb_eq (tgt := 31) dX3_isMatch_24 (by decide) (fun c15 => ?_) (fun c15 => ?_)
      · replace h := uu_neg c15 h
        refine uu_iconst (v := 0) dX3_isMatch_31 (by decide) ?_
        have hr := Option.some.inj h
        subst hr
        exact uu_zret (x := bI false) rfl (bI_z _) dX3_isMatch_32
      · replace h := uu_pos c15 h
        refine uu_iconst (v := 1) dX3_isMatch_27 (by decide) ?_
        refine uu_goto (tgt := 32) dX3_isMatch_28 (by decide) ?_
        have hr := Option.some.inj h
        subst hr
        exact uu_zret (x := bI true) rfl (bI_z _) dX3_isMatch_32
abbrev mX4_push : hM := (yX4_push, cX4_push, 3, none)
theorem dX4_push_0 : decode cX4_push 0 = .ok (.aload_n 0, 1) := by decide +kernel
theorem fX4_41 : h_fl RX4 41 4 5 RX4 TX4 9 := ⟨rfl, by decide, inX4, h_t1 231 rfl rfl⟩
theorem dX4_push_1 : decode cX4_push 1 = .ok (.getfield 41, 3) := by decide +kernel
theorem dX4_push_4 : decode cX4_push 4 = .ok (.bipush 120, 2) := by decide +kernel
theorem dX4_push_6 : decode cX4_push 6 = .ok (.if_icmp .ge 33, 3) := by decide +kernel
theorem dX4_push_39 : decode cX4_push 39 = .ok (.return_, 1) := by decide +kernel
theorem dX4_push_9 : decode cX4_push 9 = .ok (.aload_n 0, 1) := by decide +kernel
theorem dX4_push_10 : decode cX4_push 10 = .ok (.getfield 22, 3) := by decide +kernel
theorem dX4_push_13 : decode cX4_push 13 = .ok (.aload_n 0, 1) := by decide +kernel
theorem dX4_push_14 : decode cX4_push 14 = .ok (.getfield 41, 3) := by decide +kernel
theorem dX4_push_17 : decode cX4_push 17 = .ok (.iload_n 1, 1) := by decide +kernel
theorem dX4_push_18 : decode cX4_push 18 = .ok (.iastore, 1) := by decide +kernel
theorem dX4_push_19 : decode cX4_push 19 = .ok (.aload_n 0, 1) := by decide +kernel
theorem dX4_push_20 : decode cX4_push 20 = .ok (.getfield 26, 3) := by decide +kernel
theorem dX4_push_23 : decode cX4_push 23 = .ok (.aload_n 0, 1) := by decide +kernel
theorem dX4_push_24 : decode cX4_push 24 = .ok (.getfield 41, 3) := by decide +kernel
theorem dX4_push_27 : decode cX4_push 27 = .ok (.iload_n 2, 1) := by decide +kernel
theorem dX4_push_28 : decode cX4_push 28 = .ok (.iastore, 1) := by decide +kernel
theorem dX4_push_29 : decode cX4_push 29 = .ok (.aload_n 0, 1) := by decide +kernel
theorem dX4_push_30 : decode cX4_push 30 = .ok (.dup, 1) := by decide +kernel
theorem dX4_push_31 : decode cX4_push 31 = .ok (.getfield 41, 3) := by decide +kernel
theorem dX4_push_34 : decode cX4_push 34 = .ok (.iconst 1, 1) := by decide +kernel
theorem dX4_push_35 : decode cX4_push 35 = .ok (.iadd, 1) := by decide +kernel
theorem dX4_push_36 : decode cX4_push 36 = .ok (.putfield 41, 3) := by decide +kernel
def fn_X4_push (x1 : Int32) (x2 : Int32) (s : uS) : Option uS := if (120 : Int32) ≤ (s.I 6 5) then (some s) else ((iput 20 s 14 (s.I 6 5) x1).bind fun s2 => (iput 20 s2 15 (s2.I 6 5) x2).bind fun s4 => some (wI s4 6 5 ((s4.I 6 5) + 1)))
set_option maxRecDepth 100000 in
set_option maxHeartbeats 4000000 in
theorem xc_X4_push {l : Launch} {D : va_G} {A : Nat → ClassId} {B : Nat} {Z : State → Heap → Prop} {vF : Value} (uk : uK B Z vF) {x1 : Int32} {x2 : Int32} {s : uS} {r : uS}  (h : fn_X4_push x1 x2 s = some r) : CU l D A B Z 0 mX4_push s [.ref (B + 6), .int x1, .int x2] (r, none) := by
  unfold fn_X4_push at h
  refine cu_of rfl uk.1.1 (Nat.le_of_ble_eq_true rfl) ?_
  show GU _ _ _ _ _ _ _ _ _ 0 [(0, .ref (B + 6)), (1, .int x1), (2, .int x2)] []
  refine uu_aload_n dX4_push_0 rfl (List.mem_of_getElem? (i := 0) rfl) ?_
  refine uu_geti (ci := 4) (N := 9) fX4_41 (by decide) so_6.is (by decide) (by decide) dX4_push_1 ?_
  refine uu_bipush (v := 120) dX4_push_4 (by decide) ?_
  refine uu_icmp_ge (tgt := 39) dX4_push_6 (by decide) (fun c1 => ?_) (fun c1 => ?_)
  · replace h := uu_pos c1 h
    have hr := Option.some.inj h
    subst hr
    exact uu_vret rfl dX4_push_39
  · replace h := uu_neg c1 h
    refine uu_aload_n dX4_push_9 rfl (List.mem_of_getElem? (i := 0) rfl) ?_
    refine uu_geta (ci := 4) (N := 9) fX4_22 (by decide) so_6.is (by decide) (c := 14) (by decide) dX4_push_10 ?_
    refine uu_aload_n dX4_push_13 rfl (List.mem_of_getElem? (i := 0) rfl) ?_
    refine uu_geti (ci := 4) (N := 9) fX4_41 (by decide) so_6.is (by decide) (by decide) dX4_push_14 ?_
    refine uu_iload_n dX4_push_17 rfl (List.mem_of_getElem? (i := 1) rfl) ?_
    obtain ⟨s2, e3, h⟩ := uu_ob h
    refine uu_iast e3 dX4_push_18 ?_
    refine uu_aload_n dX4_push_19 rfl (List.mem_of_getElem? (i := 0) rfl) ?_
    refine uu_geta (ci := 4) (N := 9) fX4_26 (by decide) so_6.is (by decide) (c := 15) (by decide) dX4_push_20 ?_
    refine uu_aload_n dX4_push_23 rfl (List.mem_of_getElem? (i := 0) rfl) ?_
    refine uu_geti (ci := 4) (N := 9) fX4_41 (by decide) so_6.is (by decide) (by decide) dX4_push_24 ?_
    refine uu_iload_n dX4_push_27 rfl (List.mem_of_getElem? (i := 2) rfl) ?_
    obtain ⟨s4, e5, h⟩ := uu_ob h
    refine uu_iast e5 dX4_push_28 ?_
    refine uu_aload_n dX4_push_29 rfl (List.mem_of_getElem? (i := 0) rfl) ?_
    refine uu_dup dX4_push_30 rfl ?_
    refine uu_geti (ci := 4) (N := 9) fX4_41 (by decide) so_6.is (by decide) (by decide) dX4_push_31 ?_
    refine uu_iconst (v := 1) dX4_push_34 (by decide) ?_
    refine uu_iadd dX4_push_35 ?_
    refine uu_puti (ft := .int) (ci := 4) (N := 9) fX4_41 ptX4 (Or.inl rfl) (by decide) so_6.is (by decide) (by decide) (by decide +kernel) rfl rfl dX4_push_36 ?_
    have hr := Option.some.inj h
    subst hr
    exact uu_vret rfl dX4_push_39
abbrev mX4_pushList : hM := (yX4_pushList, cX4_pushList, 4, none)
theorem dX4_pushList_0 : decode cX4_pushList 0 = .ok (.aload_n 0, 1) := by decide +kernel
theorem dX4_pushList_1 : decode cX4_pushList 1 = .ok (.iload_n 1, 1) := by decide +kernel
theorem dX4_pushList_2 : decode cX4_pushList 2 = .ok (.iload_n 2, 1) := by decide +kernel
theorem dX4_pushList_3 : decode cX4_pushList 3 = .ok (.bipush 12, 2) := by decide +kernel
theorem dX4_pushList_5 : decode cX4_pushList 5 = .ok (.imul, 1) := by decide +kernel
theorem dX4_pushList_6 : decode cX4_pushList 6 = .ok (.iload_n 3, 1) := by decide +kernel
theorem dX4_pushList_7 : decode cX4_pushList 7 = .ok (.iadd, 1) := by decide +kernel
theorem kX4_push : h_ml mX4_push 2 := ⟨h_t4 193 rfl rfl, h_t1 2 rfl rfl, ⟨by decide, by decide, by decide +kernel⟩, by decide⟩
theorem lX4_113 : Cond.methodLink RX4 113 mX4_push.1 ∈ lw_g := h_t4 190 rfl rfl
theorem sX4_push : Cond.instanceMethod mX4_push.1 ∈ lw_g ∧ Cond.selects mX4_push.1.cls mX4_push.1 mX4_push.1 ∈ lw_g := ⟨h_t4 192 rfl rfl, h_ins 19 rfl⟩
theorem dX4_pushList_8 : decode cX4_pushList 8 = .ok (.invokevirtual 113, 3) := by decide +kernel
theorem dX4_pushList_11 : decode cX4_pushList 11 = .ok (.return_, 1) := by decide +kernel
def fn_X4_pushList (x1 : Int32) (x2 : Int32) (x3 : Int32) (s : uS) : Option uS := (fn_X4_push x1 ((x2 * 12) + x3) s).bind fun s1 => some s1
set_option maxRecDepth 100000 in
set_option maxHeartbeats 4000000 in
theorem xc_X4_pushList {l : Launch} {D : va_G} {A : Nat → ClassId} {B : Nat} {Z : State → Heap → Prop} {vF : Value} (uk : uK B Z vF) {x1 : Int32} {x2 : Int32} {x3 : Int32} {s : uS} {r : uS}  (h : fn_X4_pushList x1 x2 x3 s = some r) : CU l D A B Z 1 mX4_pushList s [.ref (B + 6), .int x1, .int x2, .int x3] (r, none) := by
  unfold fn_X4_pushList at h
  refine cu_of rfl uk.1.1 (Nat.le_of_ble_eq_true rfl) ?_
  show GU _ _ _ _ _ _ _ _ _ 0 [(0, .ref (B + 6)), (1, .int x1), (2, .int x2), (3, .int x3)] []
  refine uu_aload_n dX4_pushList_0 rfl (List.mem_of_getElem? (i := 0) rfl) ?_
  refine uu_iload_n dX4_pushList_1 rfl (List.mem_of_getElem? (i := 1) rfl) ?_
  refine uu_iload_n dX4_pushList_2 rfl (List.mem_of_getElem? (i := 2) rfl) ?_
  refine uu_bipush (v := 12) dX4_pushList_3 (by decide) ?_
  refine uu_imul dX4_pushList_5 ?_
  refine uu_iload_n dX4_pushList_6 rfl (List.mem_of_getElem? (i := 3) rfl) ?_
  refine uu_iadd dX4_pushList_7 ?_
  obtain ⟨s1, e2, h⟩ := uu_ob h
  refine uu_cv (d1 := 0) (k := 6) (ci := 4) (T := TX4) (N := 9) (As := [.int x1, .int ((x2 * 12) + x3)]) (st := []) (st' := []) (xc_X4_push uk  e2) so_6.is (by decide) rfl kX4_push lX4_113 sX4_push (by decide) (Nat.le_of_ble_eq_true rfl) dX4_pushList_8 rfl ?_
  have hr := Option.some.inj h
  subst hr
  exact uu_vret rfl dX4_pushList_11
abbrev mX4_pop : hM := (yX4_pop, cX4_pop, 2, (some (.int)))
theorem dX4_pop_0 : decode cX4_pop 0 = .ok (.aload_n 0, 1) := by decide +kernel
theorem dX4_pop_1 : decode cX4_pop 1 = .ok (.dup, 1) := by decide +kernel
theorem dX4_pop_2 : decode cX4_pop 2 = .ok (.getfield 41, 3) := by decide +kernel
theorem dX4_pop_5 : decode cX4_pop 5 = .ok (.iconst 1, 1) := by decide +kernel
theorem dX4_pop_6 : decode cX4_pop 6 = .ok (.isub, 1) := by decide +kernel
theorem dX4_pop_7 : decode cX4_pop 7 = .ok (.putfield 41, 3) := by decide +kernel
theorem dX4_pop_10 : decode cX4_pop 10 = .ok (.iload_n 1, 1) := by decide +kernel
theorem dX4_pop_11 : decode cX4_pop 11 = .ok (.ireturn, 1) := by decide +kernel
def fn_X4_pop (x1 : Int32) (s : uS) : Option (uS × Int32) := some (wI s 6 5 ((s.I 6 5) - 1), x1)
set_option maxRecDepth 100000 in
set_option maxHeartbeats 4000000 in
theorem xc_X4_pop {l : Launch} {D : va_G} {A : Nat → ClassId} {B : Nat} {Z : State → Heap → Prop} {vF : Value} (uk : uK B Z vF) {x1 : Int32} {s : uS} {r : (uS × Int32)}  (h : fn_X4_pop x1 s = some r) : CU l D A B Z 0 mX4_pop s [.ref (B + 6), .int x1] (r.1, some (.int r.2)) := by
  unfold fn_X4_pop at h
  refine cu_of rfl uk.1.1 (Nat.le_of_ble_eq_true rfl) ?_
  show GU _ _ _ _ _ _ _ _ _ 0 [(0, .ref (B + 6)), (1, .int x1)] []
  refine uu_aload_n dX4_pop_0 rfl (List.mem_of_getElem? (i := 0) rfl) ?_
  refine uu_dup dX4_pop_1 rfl ?_
  refine uu_geti (ci := 4) (N := 9) fX4_41 (by decide) so_6.is (by decide) (by decide) dX4_pop_2 ?_
  refine uu_iconst (v := 1) dX4_pop_5 (by decide) ?_
  refine uu_isub dX4_pop_6 ?_
  refine uu_puti (ft := .int) (ci := 4) (N := 9) fX4_41 ptX4 (Or.inl rfl) (by decide) so_6.is (by decide) (by decide) (by decide +kernel) rfl rfl dX4_pop_7 ?_
  refine uu_iload_n dX4_pop_10 rfl (List.mem_of_getElem? (i := 1) rfl) ?_
  have hr := Option.some.inj h
  subst hr
  exact uu_iret rfl dX4_pop_11
abbrev mX4_require : hM := (yX4_require, cX4_require, 1, (some (.int)))
theorem dX4_require_54 : decode cX4_require 54 = .ok (.aload_n 0, 1) := by decide +kernel
theorem dX4_require_55 : decode cX4_require 55 = .ok (.dup, 1) := by decide +kernel
theorem dX4_require_56 : decode cX4_require 56 = .ok (.getfield 41, 3) := by decide +kernel
theorem dX4_require_59 : decode cX4_require 59 = .ok (.iconst 1, 1) := by decide +kernel
theorem dX4_require_60 : decode cX4_require 60 = .ok (.isub, 1) := by decide +kernel
theorem dX4_require_61 : decode cX4_require 61 = .ok (.putfield 41, 3) := by decide +kernel
theorem dX4_require_64 : decode cX4_require 64 = .ok (.aload_n 0, 1) := by decide +kernel
theorem dX4_require_65 : decode cX4_require 65 = .ok (.iconst 1, 1) := by decide +kernel
theorem dX4_require_66 : decode cX4_require 66 = .ok (.iconst 0, 1) := by decide +kernel
theorem dX4_require_67 : decode cX4_require 67 = .ok (.invokevirtual 113, 3) := by decide +kernel
theorem dX4_require_70 : decode cX4_require 70 = .ok (.iconst 2, 1) := by decide +kernel
theorem dX4_require_71 : decode cX4_require 71 = .ok (.ireturn, 1) := by decide +kernel
theorem dX4_require_0 : decode cX4_require 0 = .ok (.aload_n 0, 1) := by decide +kernel
theorem dX4_require_1 : decode cX4_require 1 = .ok (.getfield 10, 3) := by decide +kernel
theorem fX4_37 : h_fl RX4 37 2 2 RX2 TX2 9 := ⟨rfl, by decide, inX2, h_t1 116 rfl rfl⟩
theorem dX4_require_4 : decode cX4_require 4 = .ok (.getfield 37, 3) := by decide +kernel
theorem dX4_require_7 : decode cX4_require 7 = .ok (.ifCond .ne 47, 3) := by decide +kernel
theorem dX4_require_10 : decode cX4_require 10 = .ok (.aload_n 0, 1) := by decide +kernel
theorem dX4_require_11 : decode cX4_require 11 = .ok (.getfield 10, 3) := by decide +kernel
theorem dX4_require_14 : decode cX4_require 14 = .ok (.ldc 127, 2) := by decide +kernel
theorem kX2_placeIn : h_ml mX2_placeIn 1 := ⟨h_t5 27 rfl rfl, h_t1 3 rfl rfl, ⟨by decide, by decide, by decide +kernel⟩, by decide⟩
theorem lX4_128 : Cond.methodLink RX4 128 mX2_placeIn.1 ∈ lw_g := h_t5 24 rfl rfl
theorem sX2_placeIn : Cond.instanceMethod mX2_placeIn.1 ∈ lw_g ∧ Cond.selects mX2_placeIn.1.cls mX2_placeIn.1 mX2_placeIn.1 ∈ lw_g := ⟨h_t5 25 rfl rfl, h_t5 26 rfl rfl⟩
theorem dX4_require_16 : decode cX4_require 16 = .ok (.invokevirtual 128, 3) := by decide +kernel
theorem dX4_require_19 : decode cX4_require 19 = .ok (.ifCond .ne 35, 3) := by decide +kernel
theorem dX4_require_22 : decode cX4_require 22 = .ok (.aload_n 0, 1) := by decide +kernel
theorem dX4_require_23 : decode cX4_require 23 = .ok (.getfield 18, 3) := by decide +kernel
theorem dX4_require_26 : decode cX4_require 26 = .ok (.iconst 0, 1) := by decide +kernel
theorem dX4_require_27 : decode cX4_require 27 = .ok (.aaload, 1) := by decide +kernel
theorem fX4_132 : h_fl RX4 132 3 14 RX3 TX3 15 := ⟨rfl, by decide, inX3, h_t1 190 rfl rfl⟩
theorem dX4_require_28 : decode cX4_require 28 = .ok (.getfield 132, 3) := by decide +kernel
theorem dX4_require_31 : decode cX4_require 31 = .ok (.bipush 11, 2) := by decide +kernel
theorem dX4_require_33 : decode cX4_require 33 = .ok (.iconst 0, 1) := by decide +kernel
theorem dX4_require_34 : decode cX4_require 34 = .ok (.iastore, 1) := by decide +kernel
theorem dX4_require_35 : decode cX4_require 35 = .ok (.aload_n 0, 1) := by decide +kernel
theorem dX4_require_36 : decode cX4_require 36 = .ok (.bipush 13, 2) := by decide +kernel
theorem dX4_require_38 : decode cX4_require 38 = .ok (.bipush 59, 2) := by decide +kernel
theorem dX4_require_40 : decode cX4_require 40 = .ok (.invokevirtual 113, 3) := by decide +kernel
theorem dX4_require_43 : decode cX4_require 43 = .ok (.aload_n 0, 1) := by decide +kernel
theorem dX4_require_44 : decode cX4_require 44 = .ok (.bipush 11, 2) := by decide +kernel
theorem dX4_require_46 : decode cX4_require 46 = .ok (.iconst 0, 1) := by decide +kernel
theorem dX4_require_47 : decode cX4_require 47 = .ok (.bipush 11, 2) := by decide +kernel
theorem kX4_pushList : h_ml mX4_pushList 3 := ⟨h_t5 31 rfl rfl, h_t1 2 rfl rfl, ⟨by decide, by decide, by decide +kernel⟩, by decide⟩
theorem lX4_135 : Cond.methodLink RX4 135 mX4_pushList.1 ∈ lw_g := h_t5 28 rfl rfl
theorem sX4_pushList : Cond.instanceMethod mX4_pushList.1 ∈ lw_g ∧ Cond.selects mX4_pushList.1.cls mX4_pushList.1 mX4_pushList.1 ∈ lw_g := ⟨h_t5 30 rfl rfl, h_ins 30 rfl⟩
theorem dX4_require_49 : decode cX4_require 49 = .ok (.invokevirtual 135, 3) := by decide +kernel
theorem dX4_require_52 : decode cX4_require 52 = .ok (.iconst 1, 1) := by decide +kernel
theorem dX4_require_53 : decode cX4_require 53 = .ok (.ireturn, 1) := by decide +kernel
def fb_X4_require_54   (s : uS) : Option (uS × Int32) := (fn_X4_push 1 0 (wI s 6 5 ((s.I 6 5) - 1))).bind fun s1 => some (s1, (2 : Int32))
set_option maxRecDepth 100000 in
set_option maxHeartbeats 4000000 in
theorem xb_X4_require_54 {l : Launch} {D : va_G} {A : Nat → ClassId} {B : Nat} {Z : State → Heap → Prop} {vF : Value} (uk : uK B Z vF)    {s : uS} {r : (uS × Int32)}  (h : fb_X4_require_54   s = some r) : GU l D A B Z mX4_require 6 (r.1, some (.int r.2)) s 54 [(0, .ref (B + 6))] [] := by
  unfold fb_X4_require_54 at h
  refine uu_aload_n dX4_require_54 rfl (List.mem_of_getElem? (i := 0) rfl) ?_
  refine uu_dup dX4_require_55 rfl ?_
  refine uu_geti (ci := 4) (N := 9) fX4_41 (by decide) so_6.is (by decide) (by decide) dX4_require_56 ?_
  refine uu_iconst (v := 1) dX4_require_59 (by decide) ?_
  refine uu_isub dX4_require_60 ?_
  refine uu_puti (ft := .int) (ci := 4) (N := 9) fX4_41 ptX4 (Or.inl rfl) (by decide) so_6.is (by decide) (by decide) (by decide +kernel) rfl rfl dX4_require_61 ?_
  refine uu_aload_n dX4_require_64 rfl (List.mem_of_getElem? (i := 0) rfl) ?_
  refine uu_iconst (v := 1) dX4_require_65 (by decide) ?_
  refine uu_iconst (v := 0) dX4_require_66 (by decide) ?_
  obtain ⟨s1, e2, h⟩ := uu_ob h
  refine uu_cv (d1 := 0) (k := 6) (ci := 4) (T := TX4) (N := 9) (As := [.int 1, .int 0]) (st := []) (st' := []) (xc_X4_push uk  e2) so_6.is (by decide) rfl kX4_push lX4_113 sX4_push (by decide) (Nat.le_of_ble_eq_true rfl) dX4_require_67 rfl ?_
  refine uu_iconst (v := 2) dX4_require_70 (by decide) ?_
  have hr := Option.some.inj h
  subst hr
  exact uu_iret rfl dX4_require_71
def fn_X4_require  (s : uS) : Option (uS × Int32) := if (s.I 7 2) = 0 then ((fn_X2_placeIn kW_36 s).bind fun v3 => if v3 = 0 then ((pgt 28 s 13 0).bind fun j6 => if uSo j6 3 then ((iput 20 s (j6 + 2) 11 0).bind fun s9 => (fn_X4_push 13 59 s9).bind fun s11 => (fn_X4_pushList 11 0 11 s11).bind fun s13 => some (s13, (1 : Int32))) else none) else (fb_X4_require_54 s)) else (fb_X4_require_54 s)
set_option maxRecDepth 100000 in
set_option maxHeartbeats 4000000 in
theorem xc_X4_require {l : Launch} {D : va_G} {A : Nat → ClassId} {B : Nat} {Z : State → Heap → Prop} {vF : Value} (uk : uK B Z vF)  {s : uS} {r : (uS × Int32)}  (h : fn_X4_require  s = some r) : CU l D A B Z 6 mX4_require s [.ref (B + 6)] (r.1, some (.int r.2)) := by
  unfold fn_X4_require at h
  refine cu_of rfl uk.1.1 (Nat.le_of_ble_eq_true rfl) ?_
  show GU _ _ _ _ _ _ _ _ _ 0 [(0, .ref (B + 6))] []
  refine uu_aload_n dX4_require_0 rfl (List.mem_of_getElem? (i := 0) rfl) ?_
  refine uu_geta (ci := 4) (N := 9) fX4_10 (by decide) so_6.is (by decide) (c := 7) (by decide) dX4_require_1 ?_
  refine uu_geti (ci := 2) (N := 9) fX4_37 (by decide) so_7.is (by decide) (by decide) dX4_require_4 ?_
  refine uu_if_ne (tgt := 54) dX4_require_7 (by decide) (fun c1 => ?_) (fun c1 => ?_)
  · replace h := uu_neg c1 h
    exact xb_X4_require_54 uk  h
  · replace h := uu_pos c1 h
    refine uu_aload_n dX4_require_10 rfl (List.mem_of_getElem? (i := 0) rfl) ?_
    refine uu_geta (ci := 4) (N := 9) fX4_10 (by decide) so_6.is (by decide) (c := 7) (by decide) dX4_require_11 ?_
    obtain ⟨cq2, cp2, cv2, cw2⟩ := uk.2.1 36 _ rfl
    refine uu_ldcS cv2 dX4_require_14 ?_
    obtain ⟨v3, e4, h⟩ := uu_ob h
    refine uu_cv (d1 := 5) (k := 7) (ci := 2) (T := TX2) (N := 9) (As := [.ref cq2]) (st := []) (st' := [.int v3]) (xc_X2_placeIn uk cw2 e4) so_7.is (by decide) rfl kX2_placeIn lX4_128 sX2_placeIn (by decide) (Nat.le_of_ble_eq_true rfl) dX4_require_16 rfl ?_
    refine uu_if_ne (tgt := 54) dX4_require_19 (by decide) (fun c5 => ?_) (fun c5 => ?_)
    · replace h := uu_neg c5 h
      exact xb_X4_require_54 uk  h
    · replace h := uu_pos c5 h
      refine uu_aload_n dX4_require_22 rfl (List.mem_of_getElem? (i := 0) rfl) ?_
      refine uu_geta (ci := 4) (N := 9) fX4_18 (by decide) so_6.is (by decide) (c := 13) (by decide) dX4_require_23 ?_
      refine uu_iconst (v := 0) dX4_require_26 (by decide) ?_
      obtain ⟨j6, e7, h⟩ := uu_ob h
      refine uu_aald (t := 28) rfl (by decide) e7 dX4_require_27 ?_
      obtain ⟨g8, h⟩ := uu_grd h
      refine uu_getc (ci := 3) (N := 15) fX4_132 (by decide) g8.is (by decide) (c := 2) (by decide) (k2 := j6 + 2) rfl dX4_require_28 ?_
      refine uu_bipush (v := 11) dX4_require_31 (by decide) ?_
      refine uu_iconst (v := 0) dX4_require_33 (by decide) ?_
      obtain ⟨s9, e10, h⟩ := uu_ob h
      refine uu_iast e10 dX4_require_34 ?_
      refine uu_aload_n dX4_require_35 rfl (List.mem_of_getElem? (i := 0) rfl) ?_
      refine uu_bipush (v := 13) dX4_require_36 (by decide) ?_
      refine uu_bipush (v := 59) dX4_require_38 (by decide) ?_
      obtain ⟨s11, e12, h⟩ := uu_ob h
      refine uu_cv (d1 := 0) (k := 6) (ci := 4) (T := TX4) (N := 9) (As := [.int 13, .int 59]) (st := []) (st' := []) (xc_X4_push uk  e12) so_6.is (by decide) rfl kX4_push lX4_113 sX4_push (by decide) (Nat.le_of_ble_eq_true rfl) dX4_require_40 rfl ?_
      refine uu_aload_n dX4_require_43 rfl (List.mem_of_getElem? (i := 0) rfl) ?_
      refine uu_bipush (v := 11) dX4_require_44 (by decide) ?_
      refine uu_iconst (v := 0) dX4_require_46 (by decide) ?_
      refine uu_bipush (v := 11) dX4_require_47 (by decide) ?_
      obtain ⟨s13, e14, h⟩ := uu_ob h
      refine uu_cv (d1 := 1) (k := 6) (ci := 4) (T := TX4) (N := 9) (As := [.int 11, .int 0, .int 11]) (st := []) (st' := []) (xc_X4_pushList uk  e14) so_6.is (by decide) rfl kX4_pushList lX4_135 sX4_pushList (by decide) (Nat.le_of_ble_eq_true rfl) dX4_require_49 rfl ?_
      refine uu_iconst (v := 1) dX4_require_52 (by decide) ?_
      have hr := Option.some.inj h
      subst hr
      exact uu_iret rfl dX4_require_53
abbrev mX4_isLacking : hM := (yX4_isLacking, cX4_isLacking, 2, (some (.boolean)))
theorem dX4_isLacking_0 : decode cX4_isLacking 0 = .ok (.aload_n 0, 1) := by decide +kernel
theorem fX4_106 : h_fl RX4 106 4 8 RX4 TX4 9 := ⟨rfl, by decide, inX4, h_t1 234 rfl rfl⟩
theorem dX4_isLacking_1 : decode cX4_isLacking 1 = .ok (.getfield 106, 3) := by decide +kernel
theorem dX4_isLacking_4 : decode cX4_isLacking 4 = .ok (.iload_n 1, 1) := by decide +kernel
theorem dX4_isLacking_5 : decode cX4_isLacking 5 = .ok (.iand, 1) := by decide +kernel
theorem dX4_isLacking_6 : decode cX4_isLacking 6 = .ok (.iload_n 1, 1) := by decide +kernel
theorem dX4_isLacking_7 : decode cX4_isLacking 7 = .ok (.if_icmp .eq 7, 3) := by decide +kernel
theorem dX4_isLacking_14 : decode cX4_isLacking 14 = .ok (.iconst 0, 1) := by decide +kernel
theorem dX4_isLacking_15 : decode cX4_isLacking 15 = .ok (.ireturn, 1) := by decide +kernel
theorem dX4_isLacking_10 : decode cX4_isLacking 10 = .ok (.iconst 1, 1) := by decide +kernel
theorem dX4_isLacking_11 : decode cX4_isLacking 11 = .ok (.goto 4, 3) := by decide +kernel
def fn_X4_isLacking (x1 : Int32) (s : uS) : Option Bool := if ((s.I 6 8) &&& x1) = x1 then (some false) else (some true)
set_option maxRecDepth 100000 in
set_option maxHeartbeats 4000000 in
theorem xc_X4_isLacking {l : Launch} {D : va_G} {A : Nat → ClassId} {B : Nat} {Z : State → Heap → Prop} {vF : Value} (uk : uK B Z vF) {x1 : Int32} {s : uS} {r : Bool}  (h : fn_X4_isLacking x1 s = some r) : CU l D A B Z 0 mX4_isLacking s [.ref (B + 6), .int x1] (s, some (.int (bI r))) := by
  unfold fn_X4_isLacking at h
  refine cu_of rfl uk.1.1 (Nat.le_of_ble_eq_true rfl) ?_
  show GU _ _ _ _ _ _ _ _ _ 0 [(0, .ref (B + 6)), (1, .int x1)] []
  refine uu_aload_n dX4_isLacking_0 rfl (List.mem_of_getElem? (i := 0) rfl) ?_
  refine uu_geti (ci := 4) (N := 9) fX4_106 (by decide) so_6.is (by decide) (by decide) dX4_isLacking_1 ?_
  refine uu_iload_n dX4_isLacking_4 rfl (List.mem_of_getElem? (i := 1) rfl) ?_
  refine uu_iand dX4_isLacking_5 ?_
  refine uu_iload_n dX4_isLacking_6 rfl (List.mem_of_getElem? (i := 1) rfl) ?_
  refine uu_icmp_eq (tgt := 14) dX4_isLacking_7 (by decide) (fun c1 => ?_) (fun c1 => ?_)
  · replace h := uu_pos c1 h
    refine uu_iconst (v := 0) dX4_isLacking_14 (by decide) ?_
    have hr := Option.some.inj h
    subst hr
    exact uu_zret (x := bI false) rfl (bI_z _) dX4_isLacking_15
  · replace h := uu_neg c1 h
    refine uu_iconst (v := 1) dX4_isLacking_10 (by decide) ?_
    refine uu_goto (tgt := 15) dX4_isLacking_11 (by decide) ?_
    have hr := Option.some.inj h
    subst hr
    exact uu_zret (x := bI true) rfl (bI_z _) dX4_isLacking_15
abbrev mX4_openBlock : hM := (yX4_openBlock, cX4_openBlock, 2, (some (.int)))
theorem dX4_openBlock_0 : decode cX4_openBlock 0 = .ok (.aload_n 0, 1) := by decide +kernel
theorem dX4_openBlock_1 : decode cX4_openBlock 1 = .ok (.getfield 10, 3) := by decide +kernel
theorem dX4_openBlock_4 : decode cX4_openBlock 4 = .ok (.bipush 123, 2) := by decide +kernel
theorem kX2_isSign : h_ml mX2_isSign 1 := ⟨h_t5 52 rfl rfl, h_t1 3 rfl rfl, ⟨by decide, by decide, by decide +kernel⟩, by decide⟩
theorem lX4_61 : Cond.methodLink RX4 61 mX2_isSign.1 ∈ lw_g := h_t5 49 rfl rfl
theorem sX2_isSign : Cond.instanceMethod mX2_isSign.1 ∈ lw_g ∧ Cond.selects mX2_isSign.1.cls mX2_isSign.1 mX2_isSign.1 ∈ lw_g := ⟨h_t5 50 rfl rfl, h_t5 51 rfl rfl⟩
theorem dX4_openBlock_6 : decode cX4_openBlock 6 = .ok (.invokevirtual 61, 3) := by decide +kernel
theorem dX4_openBlock_9 : decode cX4_openBlock 9 = .ok (.ifCond .eq 12, 3) := by decide +kernel
theorem dX4_openBlock_21 : decode cX4_openBlock 21 = .ok (.iconst 0, 1) := by decide +kernel
theorem dX4_openBlock_22 : decode cX4_openBlock 22 = .ok (.ireturn, 1) := by decide +kernel
theorem dX4_openBlock_12 : decode cX4_openBlock 12 = .ok (.aload_n 0, 1) := by decide +kernel
theorem fX4_103 : h_fl RX4 103 4 7 RX4 TX4 9 := ⟨rfl, by decide, inX4, h_t1 233 rfl rfl⟩
theorem dX4_openBlock_13 : decode cX4_openBlock 13 = .ok (.getfield 103, 3) := by decide +kernel
theorem dX4_openBlock_16 : decode cX4_openBlock 16 = .ok (.bipush 8, 2) := by decide +kernel
theorem dX4_openBlock_18 : decode cX4_openBlock 18 = .ok (.if_icmp .ne 5, 3) := by decide +kernel
theorem dX4_openBlock_23 : decode cX4_openBlock 23 = .ok (.aload_n 0, 1) := by decide +kernel
theorem dX4_openBlock_24 : decode cX4_openBlock 24 = .ok (.dup, 1) := by decide +kernel
theorem dX4_openBlock_25 : decode cX4_openBlock 25 = .ok (.getfield 103, 3) := by decide +kernel
theorem dX4_openBlock_28 : decode cX4_openBlock 28 = .ok (.iconst 1, 1) := by decide +kernel
theorem dX4_openBlock_29 : decode cX4_openBlock 29 = .ok (.iadd, 1) := by decide +kernel
theorem dX4_openBlock_30 : decode cX4_openBlock 30 = .ok (.putfield 103, 3) := by decide +kernel
theorem dX4_openBlock_33 : decode cX4_openBlock 33 = .ok (.aload_n 0, 1) := by decide +kernel
theorem dX4_openBlock_34 : decode cX4_openBlock 34 = .ok (.dup, 1) := by decide +kernel
theorem dX4_openBlock_35 : decode cX4_openBlock 35 = .ok (.getfield 41, 3) := by decide +kernel
theorem dX4_openBlock_38 : decode cX4_openBlock 38 = .ok (.iconst 1, 1) := by decide +kernel
theorem dX4_openBlock_39 : decode cX4_openBlock 39 = .ok (.isub, 1) := by decide +kernel
theorem dX4_openBlock_40 : decode cX4_openBlock 40 = .ok (.putfield 41, 3) := by decide +kernel
theorem dX4_openBlock_43 : decode cX4_openBlock 43 = .ok (.aload_n 0, 1) := by decide +kernel
theorem dX4_openBlock_44 : decode cX4_openBlock 44 = .ok (.iconst 3, 1) := by decide +kernel
theorem dX4_openBlock_45 : decode cX4_openBlock 45 = .ok (.iload_n 1, 1) := by decide +kernel
theorem dX4_openBlock_46 : decode cX4_openBlock 46 = .ok (.invokevirtual 113, 3) := by decide +kernel
theorem dX4_openBlock_49 : decode cX4_openBlock 49 = .ok (.iconst 1, 1) := by decide +kernel
theorem dX4_openBlock_50 : decode cX4_openBlock 50 = .ok (.ireturn, 1) := by decide +kernel
def fn_X4_openBlock (x1 : Int32) (s : uS) : Option (uS × Int32) := (fn_X2_isSign 123 s).bind fun v1 => if v1 = true then (if (s.I 6 7) = 8 then (some (s, (0 : Int32))) else ((fn_X4_push 3 x1 (wI (wI s 6 7 ((s.I 6 7) + 1)) 6 5 (((wI s 6 7 ((s.I 6 7) + 1)).I 6 5) - 1))).bind fun s5 => some (s5, (1 : Int32)))) else (some (s, (0 : Int32)))
set_option maxRecDepth 100000 in
set_option maxHeartbeats 4000000 in
theorem xc_X4_openBlock {l : Launch} {D : va_G} {A : Nat → ClassId} {B : Nat} {Z : State → Heap → Prop} {vF : Value} (uk : uK B Z vF) {x1 : Int32} {s : uS} {r : (uS × Int32)}  (h : fn_X4_openBlock x1 s = some r) : CU l D A B Z 1 mX4_openBlock s [.ref (B + 6), .int x1] (r.1, some (.int r.2)) := by
  unfold fn_X4_openBlock at h
  refine cu_of rfl uk.1.1 (Nat.le_of_ble_eq_true rfl) ?_
  show GU _ _ _ _ _ _ _ _ _ 0 [(0, .ref (B + 6)), (1, .int x1)] []
  refine uu_aload_n dX4_openBlock_0 rfl (List.mem_of_getElem? (i := 0) rfl) ?_
  refine uu_geta (ci := 4) (N := 9) fX4_10 (by decide) so_6.is (by decide) (c := 7) (by decide) dX4_openBlock_1 ?_
  refine uu_bipush (v := 123) dX4_openBlock_4 (by decide) ?_
  obtain ⟨v1, e2, h⟩ := uu_ob h
  refine uu_cv (d1 := 0) (k := 7) (ci := 2) (T := TX2) (N := 9) (As := [.int 123]) (st := []) (st' := [.int (bI v1)]) (xc_X2_isSign uk  e2) so_7.is (by decide) rfl kX2_isSign lX4_61 sX2_isSign (by decide) (Nat.le_of_ble_eq_true rfl) dX4_openBlock_6 rfl ?_
  refine uu_ifb_eq (tgt := 21) dX4_openBlock_9 (by decide) (fun c3 => ?_) (fun c3 => ?_)
  · replace h := uu_neg c3 h
    refine uu_iconst (v := 0) dX4_openBlock_21 (by decide) ?_
    have hr := Option.some.inj h
    subst hr
    exact uu_iret rfl dX4_openBlock_22
  · replace h := uu_pos c3 h
    refine uu_aload_n dX4_openBlock_12 rfl (List.mem_of_getElem? (i := 0) rfl) ?_
    refine uu_geti (ci := 4) (N := 9) fX4_103 (by decide) so_6.is (by decide) (by decide) dX4_openBlock_13 ?_
    refine uu_bipush (v := 8) dX4_openBlock_16 (by decide) ?_
    refine uu_icmp_ne (tgt := 23) dX4_openBlock_18 (by decide) (fun c4 => ?_) (fun c4 => ?_)
    · replace h := uu_neg c4 h
      refine uu_aload_n dX4_openBlock_23 rfl (List.mem_of_getElem? (i := 0) rfl) ?_
      refine uu_dup dX4_openBlock_24 rfl ?_
      refine uu_geti (ci := 4) (N := 9) fX4_103 (by decide) so_6.is (by decide) (by decide) dX4_openBlock_25 ?_
      refine uu_iconst (v := 1) dX4_openBlock_28 (by decide) ?_
      refine uu_iadd dX4_openBlock_29 ?_
      refine uu_puti (ft := .int) (ci := 4) (N := 9) fX4_103 ptX4 (Or.inl rfl) (by decide) so_6.is (by decide) (by decide) (by decide +kernel) rfl rfl dX4_openBlock_30 ?_
      refine uu_aload_n dX4_openBlock_33 rfl (List.mem_of_getElem? (i := 0) rfl) ?_
      refine uu_dup dX4_openBlock_34 rfl ?_
      refine uu_geti (ci := 4) (N := 9) fX4_41 (by decide) so_6.is (by decide) (by decide) dX4_openBlock_35 ?_
      refine uu_iconst (v := 1) dX4_openBlock_38 (by decide) ?_
      refine uu_isub dX4_openBlock_39 ?_
      refine uu_puti (ft := .int) (ci := 4) (N := 9) fX4_41 ptX4 (Or.inl rfl) (by decide) so_6.is (by decide) (by decide) (by decide +kernel) rfl rfl dX4_openBlock_40 ?_
      refine uu_aload_n dX4_openBlock_43 rfl (List.mem_of_getElem? (i := 0) rfl) ?_
      refine uu_iconst (v := 3) dX4_openBlock_44 (by decide) ?_
      refine uu_iload_n dX4_openBlock_45 rfl (List.mem_of_getElem? (i := 1) rfl) ?_
      obtain ⟨s5, e6, h⟩ := uu_ob h
      refine uu_cv (d1 := 0) (k := 6) (ci := 4) (T := TX4) (N := 9) (As := [.int 3, .int x1]) (st := []) (st' := []) (xc_X4_push uk  e6) so_6.is (by decide) rfl kX4_push lX4_113 sX4_push (by decide) (Nat.le_of_ble_eq_true rfl) dX4_openBlock_46 rfl ?_
      refine uu_iconst (v := 1) dX4_openBlock_49 (by decide) ?_
      have hr := Option.some.inj h
      subst hr
      exact uu_iret rfl dX4_openBlock_50
    · replace h := uu_pos c4 h
      refine uu_iconst (v := 0) dX4_openBlock_21 (by decide) ?_
      have hr := Option.some.inj h
      subst hr
      exact uu_iret rfl dX4_openBlock_22
abbrev mX4_pushPartsOfTest : hM := (yX4_pushPartsOfTest, cX4_pushPartsOfTest, 3, none)
theorem gsX4_146 : Cond.fieldLink RX4 146 "SortedMail$Parser" "TAGS_OF_KINDS" "[I" ∈ lw_g := h_t5 43 rfl rfl
theorem dX4_pushPartsOfTest_50 : decode cX4_pushPartsOfTest 50 = .ok (.getstatic 146, 3) := by decide +kernel
theorem dX4_pushPartsOfTest_53 : decode cX4_pushPartsOfTest 53 = .ok (.iload_n 2, 1) := by decide +kernel
theorem dX4_pushPartsOfTest_54 : decode cX4_pushPartsOfTest 54 = .ok (.iaload, 1) := by decide +kernel
theorem dX4_pushPartsOfTest_55 : decode cX4_pushPartsOfTest 55 = .ok (.ifCond .eq 10, 3) := by decide +kernel
theorem dX4_pushPartsOfTest_65 : decode cX4_pushPartsOfTest 65 = .ok (.return_, 1) := by decide +kernel
theorem dX4_pushPartsOfTest_58 : decode cX4_pushPartsOfTest 58 = .ok (.aload_n 0, 1) := by decide +kernel
theorem dX4_pushPartsOfTest_59 : decode cX4_pushPartsOfTest 59 = .ok (.bipush 8, 2) := by decide +kernel
theorem dX4_pushPartsOfTest_61 : decode cX4_pushPartsOfTest 61 = .ok (.iload_n 1, 1) := by decide +kernel
theorem dX4_pushPartsOfTest_62 : decode cX4_pushPartsOfTest 62 = .ok (.invokevirtual 113, 3) := by decide +kernel
theorem dX4_pushPartsOfTest_30 : decode cX4_pushPartsOfTest 30 = .ok (.iload_n 2, 1) := by decide +kernel
theorem dX4_pushPartsOfTest_31 : decode cX4_pushPartsOfTest 31 = .ok (.bipush 16, 2) := by decide +kernel
theorem dX4_pushPartsOfTest_33 : decode cX4_pushPartsOfTest 33 = .ok (.if_icmp .eq 17, 3) := by decide +kernel
theorem dX4_pushPartsOfTest_36 : decode cX4_pushPartsOfTest 36 = .ok (.iload_n 2, 1) := by decide +kernel
theorem dX4_pushPartsOfTest_37 : decode cX4_pushPartsOfTest 37 = .ok (.bipush 14, 2) := by decide +kernel
theorem dX4_pushPartsOfTest_39 : decode cX4_pushPartsOfTest 39 = .ok (.if_icmp .eq 11, 3) := by decide +kernel
theorem dX4_pushPartsOfTest_42 : decode cX4_pushPartsOfTest 42 = .ok (.aload_n 0, 1) := by decide +kernel
theorem dX4_pushPartsOfTest_43 : decode cX4_pushPartsOfTest 43 = .ok (.bipush 11, 2) := by decide +kernel
theorem dX4_pushPartsOfTest_45 : decode cX4_pushPartsOfTest 45 = .ok (.iload_n 1, 1) := by decide +kernel
theorem dX4_pushPartsOfTest_46 : decode cX4_pushPartsOfTest 46 = .ok (.iconst 0, 1) := by decide +kernel
theorem dX4_pushPartsOfTest_47 : decode cX4_pushPartsOfTest 47 = .ok (.invokevirtual 135, 3) := by decide +kernel
theorem dX4_pushPartsOfTest_0 : decode cX4_pushPartsOfTest 0 = .ok (.iload_n 2, 1) := by decide +kernel
theorem dX4_pushPartsOfTest_1 : decode cX4_pushPartsOfTest 1 = .ok (.bipush 16, 2) := by decide +kernel
theorem dX4_pushPartsOfTest_3 : decode cX4_pushPartsOfTest 3 = .ok (.if_icmp .ne 13, 3) := by decide +kernel
theorem dX4_pushPartsOfTest_16 : decode cX4_pushPartsOfTest 16 = .ok (.iload_n 2, 1) := by decide +kernel
theorem dX4_pushPartsOfTest_17 : decode cX4_pushPartsOfTest 17 = .ok (.bipush 15, 2) := by decide +kernel
theorem dX4_pushPartsOfTest_19 : decode cX4_pushPartsOfTest 19 = .ok (.if_icmp .eq 11, 3) := by decide +kernel
theorem dX4_pushPartsOfTest_22 : decode cX4_pushPartsOfTest 22 = .ok (.aload_n 0, 1) := by decide +kernel
theorem dX4_pushPartsOfTest_23 : decode cX4_pushPartsOfTest 23 = .ok (.bipush 11, 2) := by decide +kernel
theorem dX4_pushPartsOfTest_25 : decode cX4_pushPartsOfTest 25 = .ok (.iload_n 1, 1) := by decide +kernel
theorem dX4_pushPartsOfTest_26 : decode cX4_pushPartsOfTest 26 = .ok (.iconst 1, 1) := by decide +kernel
theorem dX4_pushPartsOfTest_27 : decode cX4_pushPartsOfTest 27 = .ok (.invokevirtual 135, 3) := by decide +kernel
theorem dX4_pushPartsOfTest_6 : decode cX4_pushPartsOfTest 6 = .ok (.aload_n 0, 1) := by decide +kernel
theorem dX4_pushPartsOfTest_7 : decode cX4_pushPartsOfTest 7 = .ok (.bipush 9, 2) := by decide +kernel
theorem dX4_pushPartsOfTest_9 : decode cX4_pushPartsOfTest 9 = .ok (.iload_n 1, 1) := by decide +kernel
theorem dX4_pushPartsOfTest_10 : decode cX4_pushPartsOfTest 10 = .ok (.invokevirtual 113, 3) := by decide +kernel
theorem dX4_pushPartsOfTest_13 : decode cX4_pushPartsOfTest 13 = .ok (.goto 17, 3) := by decide +kernel
def fb_X4_pushPartsOfTest_50  (x1 : Int32) (x2 : Int32) (s : uS) : Option uS := (tget kS_2 x2).bind fun v2 => if v2 = 0 then (some s) else ((fn_X4_push 8 x1 s).bind fun s5 => some s5)
set_option maxRecDepth 100000 in
set_option maxHeartbeats 4000000 in
theorem xb_X4_pushPartsOfTest_50 {l : Launch} {D : va_G} {A : Nat → ClassId} {B : Nat} {Z : State → Heap → Prop} {vF : Value} (uk : uK B Z vF)   {x1 : Int32} {x2 : Int32} {s : uS} {r : uS}  (h : fb_X4_pushPartsOfTest_50  x1 x2 s = some r) : GU l D A B Z mX4_pushPartsOfTest 2 (r, none) s 50 [(0, .ref (B + 6)), (1, .int x1), (2, .int x2)] [] := by
  unfold fb_X4_pushPartsOfTest_50 at h
  obtain ⟨cq1, hz1, ht1⟩ := uk.2.2 2 _ rfl
  refine uu_gets hz1 gsX4_146 dX4_pushPartsOfTest_50 ?_
  refine uu_iload_n dX4_pushPartsOfTest_53 rfl (List.mem_of_getElem? (i := 2) rfl) ?_
  obtain ⟨v2, e3, h⟩ := uu_ob h
  refine uu_ti (xs := kS_2) ht1 e3 dX4_pushPartsOfTest_54 ?_
  refine uu_if_eq (tgt := 65) dX4_pushPartsOfTest_55 (by decide) (fun c4 => ?_) (fun c4 => ?_)
  · replace h := uu_pos c4 h
    have hr := Option.some.inj h
    subst hr
    exact uu_vret rfl dX4_pushPartsOfTest_65
  · replace h := uu_neg c4 h
    refine uu_aload_n dX4_pushPartsOfTest_58 rfl (List.mem_of_getElem? (i := 0) rfl) ?_
    refine uu_bipush (v := 8) dX4_pushPartsOfTest_59 (by decide) ?_
    refine uu_iload_n dX4_pushPartsOfTest_61 rfl (List.mem_of_getElem? (i := 1) rfl) ?_
    obtain ⟨s5, e6, h⟩ := uu_ob h
    refine uu_cv (d1 := 0) (k := 6) (ci := 4) (T := TX4) (N := 9) (As := [.int 8, .int x1]) (st := []) (st' := []) (xc_X4_push uk  e6) so_6.is (by decide) rfl kX4_push lX4_113 sX4_push (by decide) (Nat.le_of_ble_eq_true rfl) dX4_pushPartsOfTest_62 rfl ?_
    have hr := Option.some.inj h
    subst hr
    exact uu_vret rfl dX4_pushPartsOfTest_65
def fb_X4_pushPartsOfTest_30  (x1 : Int32) (x2 : Int32) (s : uS) : Option uS := if x2 = 16 then (fb_X4_pushPartsOfTest_50 x1 x2 s) else (if x2 = 14 then (fb_X4_pushPartsOfTest_50 x1 x2 s) else ((fn_X4_pushList 11 x1 0 s).bind fun s3 => fb_X4_pushPartsOfTest_50 x1 x2 s3))
set_option maxRecDepth 100000 in
set_option maxHeartbeats 4000000 in
theorem xb_X4_pushPartsOfTest_30 {l : Launch} {D : va_G} {A : Nat → ClassId} {B : Nat} {Z : State → Heap → Prop} {vF : Value} (uk : uK B Z vF)   {x1 : Int32} {x2 : Int32} {s : uS} {r : uS}  (h : fb_X4_pushPartsOfTest_30  x1 x2 s = some r) : GU l D A B Z mX4_pushPartsOfTest 2 (r, none) s 30 [(0, .ref (B + 6)), (1, .int x1), (2, .int x2)] [] := by
  unfold fb_X4_pushPartsOfTest_30 at h
  refine uu_iload_n dX4_pushPartsOfTest_30 rfl (List.mem_of_getElem? (i := 2) rfl) ?_
  refine uu_bipush (v := 16) dX4_pushPartsOfTest_31 (by decide) ?_
  refine uu_icmp_eq (tgt := 50) dX4_pushPartsOfTest_33 (by decide) (fun c1 => ?_) (fun c1 => ?_)
  · replace h := uu_pos c1 h
    exact xb_X4_pushPartsOfTest_50 uk  h
  · replace h := uu_neg c1 h
    refine uu_iload_n dX4_pushPartsOfTest_36 rfl (List.mem_of_getElem? (i := 2) rfl) ?_
    refine uu_bipush (v := 14) dX4_pushPartsOfTest_37 (by decide) ?_
    refine uu_icmp_eq (tgt := 50) dX4_pushPartsOfTest_39 (by decide) (fun c2 => ?_) (fun c2 => ?_)
    · replace h := uu_pos c2 h
      exact xb_X4_pushPartsOfTest_50 uk  h
    · replace h := uu_neg c2 h
      refine uu_aload_n dX4_pushPartsOfTest_42 rfl (List.mem_of_getElem? (i := 0) rfl) ?_
      refine uu_bipush (v := 11) dX4_pushPartsOfTest_43 (by decide) ?_
      refine uu_iload_n dX4_pushPartsOfTest_45 rfl (List.mem_of_getElem? (i := 1) rfl) ?_
      refine uu_iconst (v := 0) dX4_pushPartsOfTest_46 (by decide) ?_
      obtain ⟨s3, e4, h⟩ := uu_ob h
      refine uu_cv (d1 := 1) (k := 6) (ci := 4) (T := TX4) (N := 9) (As := [.int 11, .int x1, .int 0]) (st := []) (st' := []) (xc_X4_pushList uk  e4) so_6.is (by decide) rfl kX4_pushList lX4_135 sX4_pushList (by decide) (Nat.le_of_ble_eq_true rfl) dX4_pushPartsOfTest_47 rfl ?_
      exact xb_X4_pushPartsOfTest_50 uk  h
def fn_X4_pushPartsOfTest (x1 : Int32) (x2 : Int32) (s : uS) : Option uS := if x2 = 16 then ((fn_X4_push 9 x1 s).bind fun s5 => fb_X4_pushPartsOfTest_30 x1 x2 s5) else (if x2 = 15 then (fb_X4_pushPartsOfTest_30 x1 x2 s) else ((fn_X4_pushList 11 x1 1 s).bind fun s3 => fb_X4_pushPartsOfTest_30 x1 x2 s3))
set_option maxRecDepth 100000 in
set_option maxHeartbeats 4000000 in
theorem xc_X4_pushPartsOfTest {l : Launch} {D : va_G} {A : Nat → ClassId} {B : Nat} {Z : State → Heap → Prop} {vF : Value} (uk : uK B Z vF) {x1 : Int32} {x2 : Int32} {s : uS} {r : uS}  (h : fn_X4_pushPartsOfTest x1 x2 s = some r) : CU l D A B Z 2 mX4_pushPartsOfTest s [.ref (B + 6), .int x1, .int x2] (r, none) := by
  unfold fn_X4_pushPartsOfTest at h
  refine cu_of rfl uk.1.1 (Nat.le_of_ble_eq_true rfl) ?_
  show GU _ _ _ _ _ _ _ _ _ 0 [(0, .ref (B + 6)), (1, .int x1), (2, .int x2)] []
  refine uu_iload_n dX4_pushPartsOfTest_0 rfl (List.mem_of_getElem? (i := 2) rfl) ?_
  refine uu_bipush (v := 16) dX4_pushPartsOfTest_1 (by decide) ?_
  refine uu_icmp_ne (tgt := 16) dX4_pushPartsOfTest_3 (by decide) (fun c1 => ?_) (fun c1 => ?_)
  · replace h := uu_neg c1 h
    refine uu_iload_n dX4_pushPartsOfTest_16 rfl (List.mem_of_getElem? (i := 2) rfl) ?_
    refine uu_bipush (v := 15) dX4_pushPartsOfTest_17 (by decide) ?_
    refine uu_icmp_eq (tgt := 30) dX4_pushPartsOfTest_19 (by decide) (fun c2 => ?_) (fun c2 => ?_)
    · replace h := uu_pos c2 h
      exact xb_X4_pushPartsOfTest_30 uk  h
    · replace h := uu_neg c2 h
      refine uu_aload_n dX4_pushPartsOfTest_22 rfl (List.mem_of_getElem? (i := 0) rfl) ?_
      refine uu_bipush (v := 11) dX4_pushPartsOfTest_23 (by decide) ?_
      refine uu_iload_n dX4_pushPartsOfTest_25 rfl (List.mem_of_getElem? (i := 1) rfl) ?_
      refine uu_iconst (v := 1) dX4_pushPartsOfTest_26 (by decide) ?_
      obtain ⟨s3, e4, h⟩ := uu_ob h
      refine uu_cv (d1 := 1) (k := 6) (ci := 4) (T := TX4) (N := 9) (As := [.int 11, .int x1, .int 1]) (st := []) (st' := []) (xc_X4_pushList uk  e4) so_6.is (by decide) rfl kX4_pushList lX4_135 sX4_pushList (by decide) (Nat.le_of_ble_eq_true rfl) dX4_pushPartsOfTest_27 rfl ?_
      exact xb_X4_pushPartsOfTest_30 uk  h
  · replace h := uu_pos c1 h
    refine uu_aload_n dX4_pushPartsOfTest_6 rfl (List.mem_of_getElem? (i := 0) rfl) ?_
    refine uu_bipush (v := 9) dX4_pushPartsOfTest_7 (by decide) ?_
    refine uu_iload_n dX4_pushPartsOfTest_9 rfl (List.mem_of_getElem? (i := 1) rfl) ?_
    obtain ⟨s5, e6, h⟩ := uu_ob h
    refine uu_cv (d1 := 0) (k := 6) (ci := 4) (T := TX4) (N := 9) (As := [.int 9, .int x1]) (st := []) (st' := []) (xc_X4_push uk  e6) so_6.is (by decide) rfl kX4_push lX4_113 sX4_push (by decide) (Nat.le_of_ble_eq_true rfl) dX4_pushPartsOfTest_10 rfl ?_
    refine uu_goto (tgt := 30) dX4_pushPartsOfTest_13 (by decide) ?_
    exact xb_X4_pushPartsOfTest_30 uk  h
abbrev mX4_endTest : hM := (yX4_endTest, cX4_endTest, 3, (some (.int)))
theorem dX4_endTest_0 : decode cX4_endTest 0 = .ok (.aload_n 0, 1) := by decide +kernel
theorem dX4_endTest_1 : decode cX4_endTest 1 = .ok (.getfield 18, 3) := by decide +kernel
theorem dX4_endTest_4 : decode cX4_endTest 4 = .ok (.iload_n 1, 1) := by decide +kernel
theorem dX4_endTest_5 : decode cX4_endTest 5 = .ok (.aaload, 1) := by decide +kernel
theorem dX4_endTest_6 : decode cX4_endTest 6 = .ok (.aload_n 0, 1) := by decide +kernel
theorem fX4_44 : h_fl RX4 44 4 2 RX4 TX4 9 := ⟨rfl, by decide, inX4, h_t1 227 rfl rfl⟩
theorem dX4_endTest_7 : decode cX4_endTest 7 = .ok (.getfield 44, 3) := by decide +kernel
theorem fX4_121 : h_fl RX4 121 3 3 RX3 TX3 15 := ⟨rfl, by decide, inX3, h_t1 160 rfl rfl⟩
theorem dX4_endTest_10 : decode cX4_endTest 10 = .ok (.putfield 121, 3) := by decide +kernel
theorem dX4_endTest_13 : decode cX4_endTest 13 = .ok (.aload_n 0, 1) := by decide +kernel
theorem dX4_endTest_14 : decode cX4_endTest 14 = .ok (.iload_n 2, 1) := by decide +kernel
theorem kX4_pop : h_ml mX4_pop 1 := ⟨h_t5 60 rfl rfl, h_t1 2 rfl rfl, ⟨by decide, by decide, by decide +kernel⟩, by decide⟩
theorem lX4_84 : Cond.methodLink RX4 84 mX4_pop.1 ∈ lw_g := h_t5 57 rfl rfl
theorem sX4_pop : Cond.instanceMethod mX4_pop.1 ∈ lw_g ∧ Cond.selects mX4_pop.1.cls mX4_pop.1 mX4_pop.1 ∈ lw_g := ⟨h_t5 59 rfl rfl, h_ins 35 rfl⟩
theorem dX4_endTest_15 : decode cX4_endTest 15 = .ok (.invokevirtual 84, 3) := by decide +kernel
theorem dX4_endTest_18 : decode cX4_endTest 18 = .ok (.ireturn, 1) := by decide +kernel
def fn_X4_endTest (x1 : Int32) (x2 : Int32) (s : uS) : Option (uS × Int32) := (pgt 28 s 13 x1).bind fun j1 => if uSo j1 3 then ((fn_X4_pop x2 (wI s j1 3 (s.I 6 2))).bind fun r4 => some (r4.1, r4.2)) else none
set_option maxRecDepth 100000 in
set_option maxHeartbeats 4000000 in
theorem xc_X4_endTest {l : Launch} {D : va_G} {A : Nat → ClassId} {B : Nat} {Z : State → Heap → Prop} {vF : Value} (uk : uK B Z vF) {x1 : Int32} {x2 : Int32} {s : uS} {r : (uS × Int32)}  (h : fn_X4_endTest x1 x2 s = some r) : CU l D A B Z 1 mX4_endTest s [.ref (B + 6), .int x1, .int x2] (r.1, some (.int r.2)) := by
  unfold fn_X4_endTest at h
  refine cu_of rfl uk.1.1 (Nat.le_of_ble_eq_true rfl) ?_
  show GU _ _ _ _ _ _ _ _ _ 0 [(0, .ref (B + 6)), (1, .int x1), (2, .int x2)] []
  refine uu_aload_n dX4_endTest_0 rfl (List.mem_of_getElem? (i := 0) rfl) ?_
  refine uu_geta (ci := 4) (N := 9) fX4_18 (by decide) so_6.is (by decide) (c := 13) (by decide) dX4_endTest_1 ?_
  refine uu_iload_n dX4_endTest_4 rfl (List.mem_of_getElem? (i := 1) rfl) ?_
  obtain ⟨j1, e2, h⟩ := uu_ob h
  refine uu_aald (t := 28) rfl (by decide) e2 dX4_endTest_5 ?_
  obtain ⟨g3, h⟩ := uu_grd h
  refine uu_aload_n dX4_endTest_6 rfl (List.mem_of_getElem? (i := 0) rfl) ?_
  refine uu_geti (ci := 4) (N := 9) fX4_44 (by decide) so_6.is (by decide) (by decide) dX4_endTest_7 ?_
  refine uu_puti (ft := .int) (ci := 3) (N := 15) fX4_121 ptX3 (Or.inl rfl) (by decide) g3.is (by decide) (by decide) (by decide +kernel) rfl rfl dX4_endTest_10 ?_
  refine uu_aload_n dX4_endTest_13 rfl (List.mem_of_getElem? (i := 0) rfl) ?_
  refine uu_iload_n dX4_endTest_14 rfl (List.mem_of_getElem? (i := 2) rfl) ?_
  obtain ⟨r4, e5, h⟩ := uu_ob h
  refine uu_cv (d1 := 0) (k := 6) (ci := 4) (T := TX4) (N := 9) (As := [.int x2]) (st := []) (st' := [.int r4.2]) (xc_X4_pop uk  e5) so_6.is (by decide) rfl kX4_pop lX4_84 sX4_pop (by decide) (Nat.le_of_ble_eq_true rfl) dX4_endTest_15 rfl ?_
  have hr := Option.some.inj h
  subst hr
  exact uu_iret rfl dX4_endTest_18
abbrev mX4_moreTests : hM := (yX4_moreTests, cX4_moreTests, 2, (some (.int)))
theorem dX4_moreTests_0 : decode cX4_moreTests 0 = .ok (.aload_n 0, 1) := by decide +kernel
theorem dX4_moreTests_1 : decode cX4_moreTests 1 = .ok (.getfield 10, 3) := by decide +kernel
theorem dX4_moreTests_4 : decode cX4_moreTests 4 = .ok (.bipush 44, 2) := by decide +kernel
theorem dX4_moreTests_6 : decode cX4_moreTests 6 = .ok (.invokevirtual 61, 3) := by decide +kernel
theorem dX4_moreTests_9 : decode cX4_moreTests 9 = .ok (.ifCond .eq 11, 3) := by decide +kernel
theorem dX4_moreTests_20 : decode cX4_moreTests 20 = .ok (.aload_n 0, 1) := by decide +kernel
theorem dX4_moreTests_21 : decode cX4_moreTests 21 = .ok (.getfield 10, 3) := by decide +kernel
theorem dX4_moreTests_24 : decode cX4_moreTests 24 = .ok (.bipush 41, 2) := by decide +kernel
theorem dX4_moreTests_26 : decode cX4_moreTests 26 = .ok (.invokevirtual 61, 3) := by decide +kernel
theorem dX4_moreTests_29 : decode cX4_moreTests 29 = .ok (.ifCond .eq 12, 3) := by decide +kernel
theorem dX4_moreTests_41 : decode cX4_moreTests 41 = .ok (.iconst 0, 1) := by decide +kernel
theorem dX4_moreTests_42 : decode cX4_moreTests 42 = .ok (.ireturn, 1) := by decide +kernel
theorem dX4_moreTests_32 : decode cX4_moreTests 32 = .ok (.aload_n 0, 1) := by decide +kernel
theorem dX4_moreTests_33 : decode cX4_moreTests 33 = .ok (.iload_n 1, 1) := by decide +kernel
theorem dX4_moreTests_34 : decode cX4_moreTests 34 = .ok (.iconst 1, 1) := by decide +kernel
theorem kX4_endTest : h_ml mX4_endTest 2 := ⟨h_t5 82 rfl rfl, h_t1 2 rfl rfl, ⟨by decide, by decide, by decide +kernel⟩, by decide⟩
theorem lX4_77 : Cond.methodLink RX4 77 mX4_endTest.1 ∈ lw_g := h_t5 79 rfl rfl
theorem sX4_endTest : Cond.instanceMethod mX4_endTest.1 ∈ lw_g ∧ Cond.selects mX4_endTest.1.cls mX4_endTest.1 mX4_endTest.1 ∈ lw_g := ⟨h_t5 81 rfl rfl, h_ins 40 rfl⟩
theorem dX4_moreTests_35 : decode cX4_moreTests 35 = .ok (.invokevirtual 77, 3) := by decide +kernel
theorem dX4_moreTests_38 : decode cX4_moreTests 38 = .ok (.goto 4, 3) := by decide +kernel
theorem dX4_moreTests_12 : decode cX4_moreTests 12 = .ok (.aload_n 0, 1) := by decide +kernel
theorem dX4_moreTests_13 : decode cX4_moreTests 13 = .ok (.iconst 5, 1) := by decide +kernel
theorem dX4_moreTests_14 : decode cX4_moreTests 14 = .ok (.iload_n 1, 1) := by decide +kernel
theorem dX4_moreTests_15 : decode cX4_moreTests 15 = .ok (.invokevirtual 113, 3) := by decide +kernel
theorem dX4_moreTests_18 : decode cX4_moreTests 18 = .ok (.iconst 1, 1) := by decide +kernel
theorem dX4_moreTests_19 : decode cX4_moreTests 19 = .ok (.ireturn, 1) := by decide +kernel
def fn_X4_moreTests (x1 : Int32) (s : uS) : Option (uS × Int32) := (fn_X2_isSign 44 s).bind fun v1 => if v1 = true then ((fn_X4_push 5 x1 s).bind fun s9 => some (s9, (1 : Int32))) else ((fn_X2_isSign 41 s).bind fun v4 => if v4 = true then ((fn_X4_endTest x1 1 s).bind fun r7 => some (r7.1, r7.2)) else (some (s, (0 : Int32))))
set_option maxRecDepth 100000 in
set_option maxHeartbeats 4000000 in
theorem xc_X4_moreTests {l : Launch} {D : va_G} {A : Nat → ClassId} {B : Nat} {Z : State → Heap → Prop} {vF : Value} (uk : uK B Z vF) {x1 : Int32} {s : uS} {r : (uS × Int32)}  (h : fn_X4_moreTests x1 s = some r) : CU l D A B Z 2 mX4_moreTests s [.ref (B + 6), .int x1] (r.1, some (.int r.2)) := by
  unfold fn_X4_moreTests at h
  refine cu_of rfl uk.1.1 (Nat.le_of_ble_eq_true rfl) ?_
  show GU _ _ _ _ _ _ _ _ _ 0 [(0, .ref (B + 6)), (1, .int x1)] []
  refine uu_aload_n dX4_moreTests_0 rfl (List.mem_of_getElem? (i := 0) rfl) ?_
  refine uu_geta (ci := 4) (N := 9) fX4_10 (by decide) so_6.is (by decide) (c := 7) (by decide) dX4_moreTests_1 ?_
  refine uu_bipush (v := 44) dX4_moreTests_4 (by decide) ?_
  obtain ⟨v1, e2, h⟩ := uu_ob h
  refine uu_cv (d1 := 0) (k := 7) (ci := 2) (T := TX2) (N := 9) (As := [.int 44]) (st := []) (st' := [.int (bI v1)]) (xc_X2_isSign uk  e2) so_7.is (by decide) rfl kX2_isSign lX4_61 sX2_isSign (by decide) (Nat.le_of_ble_eq_true rfl) dX4_moreTests_6 rfl ?_
  refine uu_ifb_eq (tgt := 20) dX4_moreTests_9 (by decide) (fun c3 => ?_) (fun c3 => ?_)
  · replace h := uu_neg c3 h
    refine uu_aload_n dX4_moreTests_20 rfl (List.mem_of_getElem? (i := 0) rfl) ?_
    refine uu_geta (ci := 4) (N := 9) fX4_10 (by decide) so_6.is (by decide) (c := 7) (by decide) dX4_moreTests_21 ?_
    refine uu_bipush (v := 41) dX4_moreTests_24 (by decide) ?_
    obtain ⟨v4, e5, h⟩ := uu_ob h
    refine uu_cv (d1 := 0) (k := 7) (ci := 2) (T := TX2) (N := 9) (As := [.int 41]) (st := []) (st' := [.int (bI v4)]) (xc_X2_isSign uk  e5) so_7.is (by decide) rfl kX2_isSign lX4_61 sX2_isSign (by decide) (Nat.le_of_ble_eq_true rfl) dX4_moreTests_26 rfl ?_
    refine uu_ifb_eq (tgt := 41) dX4_moreTests_29 (by decide) (fun c6 => ?_) (fun c6 => ?_)
    · replace h := uu_neg c6 h
      refine uu_iconst (v := 0) dX4_moreTests_41 (by decide) ?_
      have hr := Option.some.inj h
      subst hr
      exact uu_iret rfl dX4_moreTests_42
    · replace h := uu_pos c6 h
      refine uu_aload_n dX4_moreTests_32 rfl (List.mem_of_getElem? (i := 0) rfl) ?_
      refine uu_iload_n dX4_moreTests_33 rfl (List.mem_of_getElem? (i := 1) rfl) ?_
      refine uu_iconst (v := 1) dX4_moreTests_34 (by decide) ?_
      obtain ⟨r7, e8, h⟩ := uu_ob h
      refine uu_cv (d1 := 1) (k := 6) (ci := 4) (T := TX4) (N := 9) (As := [.int x1, .int 1]) (st := []) (st' := [.int r7.2]) (xc_X4_endTest uk  e8) so_6.is (by decide) rfl kX4_endTest lX4_77 sX4_endTest (by decide) (Nat.le_of_ble_eq_true rfl) dX4_moreTests_35 rfl ?_
      refine uu_goto (tgt := 42) dX4_moreTests_38 (by decide) ?_
      have hr := Option.some.inj h
      subst hr
      exact uu_iret rfl dX4_moreTests_42
  · replace h := uu_pos c3 h
    refine uu_aload_n dX4_moreTests_12 rfl (List.mem_of_getElem? (i := 0) rfl) ?_
    refine uu_iconst (v := 5) dX4_moreTests_13 (by decide) ?_
    refine uu_iload_n dX4_moreTests_14 rfl (List.mem_of_getElem? (i := 1) rfl) ?_
    obtain ⟨s9, e10, h⟩ := uu_ob h
    refine uu_cv (d1 := 0) (k := 6) (ci := 4) (T := TX4) (N := 9) (As := [.int 5, .int x1]) (st := []) (st' := []) (xc_X4_push uk  e10) so_6.is (by decide) rfl kX4_push lX4_113 sX4_push (by decide) (Nat.le_of_ble_eq_true rfl) dX4_moreTests_15 rfl ?_
    refine uu_iconst (v := 1) dX4_moreTests_18 (by decide) ?_
    have hr := Option.some.inj h
    subst hr
    exact uu_iret rfl dX4_moreTests_19
abbrev mX4_takeTag : hM := (yX4_takeTag, cX4_takeTag, 4, (some (.int)))
theorem gsX4_162 : Cond.fieldLink RX4 162 "SortedMail$Parser" "TAG_GROUPS" "[I" ∈ lw_g := h_t5 88 rfl rfl
theorem dX4_takeTag_261 : decode cX4_takeTag 261 = .ok (.getstatic 162, 3) := by decide +kernel
theorem dX4_takeTag_264 : decode cX4_takeTag 264 = .ok (.iload_n 3, 1) := by decide +kernel
theorem dX4_takeTag_265 : decode cX4_takeTag 265 = .ok (.iaload, 1) := by decide +kernel
theorem dX4_takeTag_266 : decode cX4_takeTag 266 = .ok (.iconst 4, 1) := by decide +kernel
theorem dX4_takeTag_267 : decode cX4_takeTag 267 = .ok (.if_icmp .ne 11, 3) := by decide +kernel
theorem dX4_takeTag_278 : decode cX4_takeTag 278 = .ok (.iconst 1, 1) := by decide +kernel
theorem dX4_takeTag_279 : decode cX4_takeTag 279 = .ok (.ireturn, 1) := by decide +kernel
theorem dX4_takeTag_270 : decode cX4_takeTag 270 = .ok (.aload_n 2, 1) := by decide +kernel
theorem dX4_takeTag_271 : decode cX4_takeTag 271 = .ok (.iload_n 3, 1) := by decide +kernel
theorem dX4_takeTag_272 : decode cX4_takeTag 272 = .ok (.bipush 6, 2) := by decide +kernel
theorem dX4_takeTag_274 : decode cX4_takeTag 274 = .ok (.isub, 1) := by decide +kernel
theorem fX4_181 : h_fl RX4 181 3 9 RX3 TX3 15 := ⟨rfl, by decide, inX3, h_t1 175 rfl rfl⟩
theorem dX4_takeTag_275 : decode cX4_takeTag 275 = .ok (.putfield 181, 3) := by decide +kernel
theorem dX4_takeTag_115 : decode cX4_takeTag 115 = .ok (.iload_n 3, 1) := by decide +kernel
theorem dX4_takeTag_116 : decode cX4_takeTag 116 = .ok (.tableswitch 145 3 14 #[64, 64, 76, 145, 145, 145, 88, 145, 99, 109, 121, 133], 64) := by decide +kernel
theorem dX4_takeTag_180 : decode cX4_takeTag 180 = .ok (.aload_n 0, 1) := by decide +kernel
theorem dX4_takeTag_181 : decode cX4_takeTag 181 = .ok (.bipush 10, 2) := by decide +kernel
theorem dX4_takeTag_183 : decode cX4_takeTag 183 = .ok (.iload_n 1, 1) := by decide +kernel
theorem dX4_takeTag_184 : decode cX4_takeTag 184 = .ok (.bipush 9, 2) := by decide +kernel
theorem dX4_takeTag_186 : decode cX4_takeTag 186 = .ok (.invokevirtual 135, 3) := by decide +kernel
theorem dX4_takeTag_189 : decode cX4_takeTag 189 = .ok (.goto 72, 3) := by decide +kernel
theorem dX4_takeTag_192 : decode cX4_takeTag 192 = .ok (.aload_n 0, 1) := by decide +kernel
theorem dX4_takeTag_193 : decode cX4_takeTag 193 = .ok (.bipush 10, 2) := by decide +kernel
theorem dX4_takeTag_195 : decode cX4_takeTag 195 = .ok (.iload_n 1, 1) := by decide +kernel
theorem dX4_takeTag_196 : decode cX4_takeTag 196 = .ok (.bipush 10, 2) := by decide +kernel
theorem dX4_takeTag_198 : decode cX4_takeTag 198 = .ok (.invokevirtual 135, 3) := by decide +kernel
theorem dX4_takeTag_201 : decode cX4_takeTag 201 = .ok (.goto 60, 3) := by decide +kernel
theorem dX4_takeTag_204 : decode cX4_takeTag 204 = .ok (.aload_n 0, 1) := by decide +kernel
theorem dX4_takeTag_205 : decode cX4_takeTag 205 = .ok (.bipush 11, 2) := by decide +kernel
theorem dX4_takeTag_207 : decode cX4_takeTag 207 = .ok (.iload_n 1, 1) := by decide +kernel
theorem dX4_takeTag_208 : decode cX4_takeTag 208 = .ok (.iconst 2, 1) := by decide +kernel
theorem dX4_takeTag_209 : decode cX4_takeTag 209 = .ok (.invokevirtual 135, 3) := by decide +kernel
theorem dX4_takeTag_212 : decode cX4_takeTag 212 = .ok (.goto 49, 3) := by decide +kernel
theorem dX4_takeTag_215 : decode cX4_takeTag 215 = .ok (.aload_n 0, 1) := by decide +kernel
theorem dX4_takeTag_216 : decode cX4_takeTag 216 = .ok (.bipush 9, 2) := by decide +kernel
theorem dX4_takeTag_218 : decode cX4_takeTag 218 = .ok (.iload_n 1, 1) := by decide +kernel
theorem dX4_takeTag_219 : decode cX4_takeTag 219 = .ok (.invokevirtual 113, 3) := by decide +kernel
theorem dX4_takeTag_222 : decode cX4_takeTag 222 = .ok (.goto 39, 3) := by decide +kernel
theorem dX4_takeTag_225 : decode cX4_takeTag 225 = .ok (.aload_n 0, 1) := by decide +kernel
theorem dX4_takeTag_226 : decode cX4_takeTag 226 = .ok (.bipush 10, 2) := by decide +kernel
theorem dX4_takeTag_228 : decode cX4_takeTag 228 = .ok (.iload_n 1, 1) := by decide +kernel
theorem dX4_takeTag_229 : decode cX4_takeTag 229 = .ok (.bipush 6, 2) := by decide +kernel
theorem dX4_takeTag_231 : decode cX4_takeTag 231 = .ok (.invokevirtual 135, 3) := by decide +kernel
theorem dX4_takeTag_234 : decode cX4_takeTag 234 = .ok (.goto 27, 3) := by decide +kernel
theorem dX4_takeTag_237 : decode cX4_takeTag 237 = .ok (.aload_n 0, 1) := by decide +kernel
theorem dX4_takeTag_238 : decode cX4_takeTag 238 = .ok (.bipush 11, 2) := by decide +kernel
theorem dX4_takeTag_240 : decode cX4_takeTag 240 = .ok (.iload_n 1, 1) := by decide +kernel
theorem dX4_takeTag_241 : decode cX4_takeTag 241 = .ok (.bipush 8, 2) := by decide +kernel
theorem dX4_takeTag_243 : decode cX4_takeTag 243 = .ok (.invokevirtual 135, 3) := by decide +kernel
theorem dX4_takeTag_246 : decode cX4_takeTag 246 = .ok (.goto 15, 3) := by decide +kernel
theorem dX4_takeTag_249 : decode cX4_takeTag 249 = .ok (.aload_n 0, 1) := by decide +kernel
theorem dX4_takeTag_250 : decode cX4_takeTag 250 = .ok (.bipush 10, 2) := by decide +kernel
theorem dX4_takeTag_252 : decode cX4_takeTag 252 = .ok (.iload_n 1, 1) := by decide +kernel
theorem dX4_takeTag_253 : decode cX4_takeTag 253 = .ok (.bipush 7, 2) := by decide +kernel
theorem dX4_takeTag_255 : decode cX4_takeTag 255 = .ok (.invokevirtual 135, 3) := by decide +kernel
theorem dX4_takeTag_258 : decode cX4_takeTag 258 = .ok (.goto 3, 3) := by decide +kernel
theorem dX4_takeTag_0 : decode cX4_takeTag 0 = .ok (.aload_n 0, 1) := by decide +kernel
theorem dX4_takeTag_1 : decode cX4_takeTag 1 = .ok (.getfield 18, 3) := by decide +kernel
theorem dX4_takeTag_4 : decode cX4_takeTag 4 = .ok (.iload_n 1, 1) := by decide +kernel
theorem dX4_takeTag_5 : decode cX4_takeTag 5 = .ok (.aaload, 1) := by decide +kernel
theorem dX4_takeTag_6 : decode cX4_takeTag 6 = .ok (.astore_n 2, 1) := by decide +kernel
theorem dX4_takeTag_7 : decode cX4_takeTag 7 = .ok (.aload_n 0, 1) := by decide +kernel
theorem dX4_takeTag_8 : decode cX4_takeTag 8 = .ok (.getfield 10, 3) := by decide +kernel
theorem dX4_takeTag_11 : decode cX4_takeTag 11 = .ok (.ldc 159, 2) := by decide +kernel
theorem dX4_takeTag_13 : decode cX4_takeTag 13 = .ok (.invokevirtual 128, 3) := by decide +kernel
theorem dX4_takeTag_16 : decode cX4_takeTag 16 = .ok (.istore_n 3, 1) := by decide +kernel
theorem dX4_takeTag_17 : decode cX4_takeTag 17 = .ok (.iload_n 3, 1) := by decide +kernel
theorem dX4_takeTag_18 : decode cX4_takeTag 18 = .ok (.ifCond .lt 44, 3) := by decide +kernel
theorem dX4_takeTag_62 : decode cX4_takeTag 62 = .ok (.iconst 0, 1) := by decide +kernel
theorem dX4_takeTag_63 : decode cX4_takeTag 63 = .ok (.ireturn, 1) := by decide +kernel
theorem dX4_takeTag_21 : decode cX4_takeTag 21 = .ok (.getstatic 146, 3) := by decide +kernel
theorem dX4_takeTag_24 : decode cX4_takeTag 24 = .ok (.aload_n 2, 1) := by decide +kernel
theorem fX4_161 : h_fl RX4 161 3 0 RX3 TX3 15 := ⟨rfl, by decide, inX3, h_t1 154 rfl rfl⟩
theorem dX4_takeTag_25 : decode cX4_takeTag 25 = .ok (.getfield 161, 3) := by decide +kernel
theorem dX4_takeTag_28 : decode cX4_takeTag 28 = .ok (.iaload, 1) := by decide +kernel
theorem dX4_takeTag_29 : decode cX4_takeTag 29 = .ok (.getstatic 162, 3) := by decide +kernel
theorem dX4_takeTag_32 : decode cX4_takeTag 32 = .ok (.iload_n 3, 1) := by decide +kernel
theorem dX4_takeTag_33 : decode cX4_takeTag 33 = .ok (.iaload, 1) := by decide +kernel
theorem dX4_takeTag_34 : decode cX4_takeTag 34 = .ok (.iand, 1) := by decide +kernel
theorem dX4_takeTag_35 : decode cX4_takeTag 35 = .ok (.ifCond .eq 27, 3) := by decide +kernel
theorem dX4_takeTag_38 : decode cX4_takeTag 38 = .ok (.aload_n 2, 1) := by decide +kernel
theorem dX4_takeTag_39 : decode cX4_takeTag 39 = .ok (.getstatic 162, 3) := by decide +kernel
theorem dX4_takeTag_42 : decode cX4_takeTag 42 = .ok (.iload_n 3, 1) := by decide +kernel
theorem dX4_takeTag_43 : decode cX4_takeTag 43 = .ok (.iaload, 1) := by decide +kernel
theorem lX4_165 : Cond.methodLink RX4 165 mX3_has.1 ∈ lw_g := h_t5 90 rfl rfl
theorem dX4_takeTag_44 : decode cX4_takeTag 44 = .ok (.invokevirtual 165, 3) := by decide +kernel
theorem dX4_takeTag_47 : decode cX4_takeTag 47 = .ok (.ifCond .ne 15, 3) := by decide +kernel
theorem dX4_takeTag_50 : decode cX4_takeTag 50 = .ok (.aload_n 0, 1) := by decide +kernel
theorem gsX4_168 : Cond.fieldLink RX4 168 "SortedMail$Parser" "NEEDED_BY_TAGS" "[I" ∈ lw_g := h_t5 94 rfl rfl
theorem dX4_takeTag_51 : decode cX4_takeTag 51 = .ok (.getstatic 168, 3) := by decide +kernel
theorem dX4_takeTag_54 : decode cX4_takeTag 54 = .ok (.iload_n 3, 1) := by decide +kernel
theorem dX4_takeTag_55 : decode cX4_takeTag 55 = .ok (.iaload, 1) := by decide +kernel
theorem kX4_isLacking : h_ml mX4_isLacking 1 := ⟨h_t5 42 rfl rfl, h_t1 2 rfl rfl, ⟨by decide, by decide, by decide +kernel⟩, by decide⟩
theorem lX4_143 : Cond.methodLink RX4 143 mX4_isLacking.1 ∈ lw_g := h_t5 39 rfl rfl
theorem sX4_isLacking : Cond.instanceMethod mX4_isLacking.1 ∈ lw_g ∧ Cond.selects mX4_isLacking.1.cls mX4_isLacking.1 mX4_isLacking.1 ∈ lw_g := ⟨h_t5 41 rfl rfl, h_ins 32 rfl⟩
theorem dX4_takeTag_56 : decode cX4_takeTag 56 = .ok (.invokevirtual 143, 3) := by decide +kernel
theorem dX4_takeTag_59 : decode cX4_takeTag 59 = .ok (.ifCond .eq 5, 3) := by decide +kernel
theorem dX4_takeTag_64 : decode cX4_takeTag 64 = .ok (.aload_n 2, 1) := by decide +kernel
theorem dX4_takeTag_65 : decode cX4_takeTag 65 = .ok (.dup, 1) := by decide +kernel
theorem fX4_171 : h_fl RX4 171 3 5 RX3 TX3 15 := ⟨rfl, by decide, inX3, h_t1 164 rfl rfl⟩
theorem dX4_takeTag_66 : decode cX4_takeTag 66 = .ok (.getfield 171, 3) := by decide +kernel
theorem dX4_takeTag_69 : decode cX4_takeTag 69 = .ok (.getstatic 162, 3) := by decide +kernel
theorem dX4_takeTag_72 : decode cX4_takeTag 72 = .ok (.iload_n 3, 1) := by decide +kernel
theorem dX4_takeTag_73 : decode cX4_takeTag 73 = .ok (.iaload, 1) := by decide +kernel
theorem dX4_takeTag_74 : decode cX4_takeTag 74 = .ok (.ior, 1) := by decide +kernel
theorem dX4_takeTag_75 : decode cX4_takeTag 75 = .ok (.putfield 171, 3) := by decide +kernel
theorem dX4_takeTag_78 : decode cX4_takeTag 78 = .ok (.iload_n 3, 1) := by decide +kernel
theorem dX4_takeTag_79 : decode cX4_takeTag 79 = .ok (.iconst 4, 1) := by decide +kernel
theorem dX4_takeTag_80 : decode cX4_takeTag 80 = .ok (.if_icmp .gt 11, 3) := by decide +kernel
theorem dX4_takeTag_91 : decode cX4_takeTag 91 = .ok (.aload_n 2, 1) := by decide +kernel
theorem dX4_takeTag_92 : decode cX4_takeTag 92 = .ok (.getfield 161, 3) := by decide +kernel
theorem dX4_takeTag_95 : decode cX4_takeTag 95 = .ok (.bipush 16, 2) := by decide +kernel
theorem dX4_takeTag_97 : decode cX4_takeTag 97 = .ok (.if_icmp .ne 18, 3) := by decide +kernel
theorem dX4_takeTag_100 : decode cX4_takeTag 100 = .ok (.aload_n 2, 1) := by decide +kernel
theorem dX4_takeTag_101 : decode cX4_takeTag 101 = .ok (.iload_n 3, 1) := by decide +kernel
theorem dX4_takeTag_102 : decode cX4_takeTag 102 = .ok (.bipush 15, 2) := by decide +kernel
theorem dX4_takeTag_104 : decode cX4_takeTag 104 = .ok (.if_icmp .ne 7, 3) := by decide +kernel
theorem dX4_takeTag_111 : decode cX4_takeTag 111 = .ok (.iconst 0, 1) := by decide +kernel
theorem fX4_177 : h_fl RX4 177 3 12 RX3 TX3 15 := ⟨rfl, by decide, inX3, h_t1 183 rfl rfl⟩
theorem dX4_takeTag_112 : decode cX4_takeTag 112 = .ok (.putfield 177, 3) := by decide +kernel
theorem dX4_takeTag_107 : decode cX4_takeTag 107 = .ok (.iconst 1, 1) := by decide +kernel
theorem dX4_takeTag_108 : decode cX4_takeTag 108 = .ok (.goto 4, 3) := by decide +kernel
theorem dX4_takeTag_83 : decode cX4_takeTag 83 = .ok (.aload_n 2, 1) := by decide +kernel
theorem dX4_takeTag_84 : decode cX4_takeTag 84 = .ok (.iload_n 3, 1) := by decide +kernel
theorem fX4_174 : h_fl RX4 174 3 6 RX3 TX3 15 := ⟨rfl, by decide, inX3, h_t1 167 rfl rfl⟩
theorem dX4_takeTag_85 : decode cX4_takeTag 85 = .ok (.putfield 174, 3) := by decide +kernel
theorem dX4_takeTag_88 : decode cX4_takeTag 88 = .ok (.goto 27, 3) := by decide +kernel
def fb_X4_takeTag_261  (k2 : Nat) (x3 : Int32) (s : uS) : Option (uS × Int32) := (tget kS_3 x3).bind fun v2 => if v2 = 4 then (some (wI s k2 9 (x3 - 6), (1 : Int32))) else (some (s, (1 : Int32)))
set_option maxRecDepth 100000 in
set_option maxHeartbeats 4000000 in
theorem xb_X4_takeTag_261 {l : Launch} {D : va_G} {A : Nat → ClassId} {B : Nat} {Z : State → Heap → Prop} {vF : Value} (uk : uK B Z vF)   {k2 : Nat} {x3 : Int32} {s : uS} {r : (uS × Int32)} (hk2 : uSo k2 3) (h : fb_X4_takeTag_261  k2 x3 s = some r) : GU l D A B Z mX4_takeTag 6 (r.1, some (.int r.2)) s 261 [(2, .ref (B + k2)), (3, .int x3)] [] := by
  unfold fb_X4_takeTag_261 at h
  obtain ⟨cq1, hz1, ht1⟩ := uk.2.2 3 _ rfl
  refine uu_gets hz1 gsX4_162 dX4_takeTag_261 ?_
  refine uu_iload_n dX4_takeTag_264 rfl (List.mem_of_getElem? (i := 1) rfl) ?_
  obtain ⟨v2, e3, h⟩ := uu_ob h
  refine uu_ti (xs := kS_3) ht1 e3 dX4_takeTag_265 ?_
  refine uu_iconst (v := 4) dX4_takeTag_266 (by decide) ?_
  refine uu_icmp_ne (tgt := 278) dX4_takeTag_267 (by decide) (fun c4 => ?_) (fun c4 => ?_)
  · replace h := uu_neg c4 h
    refine uu_iconst (v := 1) dX4_takeTag_278 (by decide) ?_
    have hr := Option.some.inj h
    subst hr
    exact uu_iret rfl dX4_takeTag_279
  · replace h := uu_pos c4 h
    refine uu_aload_n dX4_takeTag_270 rfl (List.mem_of_getElem? (i := 0) rfl) ?_
    refine uu_iload_n dX4_takeTag_271 rfl (List.mem_of_getElem? (i := 1) rfl) ?_
    refine uu_bipush (v := 6) dX4_takeTag_272 (by decide) ?_
    refine uu_isub dX4_takeTag_274 ?_
    refine uu_puti (ft := .int) (ci := 3) (N := 15) fX4_181 ptX3 (Or.inl rfl) (by decide) hk2.is (by decide) (by decide) (by decide +kernel) rfl rfl dX4_takeTag_275 ?_
    refine uu_iconst (v := 1) dX4_takeTag_278 (by decide) ?_
    have hr := Option.some.inj h
    subst hr
    exact uu_iret rfl dX4_takeTag_279
def fb_X4_takeTag_115  (x1 : Int32) (k2 : Nat) (x3 : Int32) (s : uS) : Option (uS × Int32) := if x3 = 3 then ((fn_X4_pushList 10 x1 9 s).bind fun s1 => fb_X4_takeTag_261 k2 x3 s1) else (if x3 = 4 then ((fn_X4_pushList 10 x1 9 s).bind fun s3 => fb_X4_takeTag_261 k2 x3 s3) else (if x3 = 5 then ((fn_X4_pushList 10 x1 10 s).bind fun s5 => fb_X4_takeTag_261 k2 x3 s5) else (if x3 = 6 then (fb_X4_takeTag_261 k2 x3 s) else (if x3 = 7 then (fb_X4_takeTag_261 k2 x3 s) else (if x3 = 8 then (fb_X4_takeTag_261 k2 x3 s) else (if x3 = 9 then ((fn_X4_pushList 11 x1 2 s).bind fun s7 => fb_X4_takeTag_261 k2 x3 s7) else (if x3 = 10 then (fb_X4_takeTag_261 k2 x3 s) else (if x3 = 11 then ((fn_X4_push 9 x1 s).bind fun s9 => fb_X4_takeTag_261 k2 x3 s9) else (if x3 = 12 then ((fn_X4_pushList 10 x1 6 s).bind fun s11 => fb_X4_takeTag_261 k2 x3 s11) else (if x3 = 13 then ((fn_X4_pushList 11 x1 8 s).bind fun s13 => fb_X4_takeTag_261 k2 x3 s13) else (if x3 = 14 then ((fn_X4_pushList 10 x1 7 s).bind fun s15 => fb_X4_takeTag_261 k2 x3 s15) else (fb_X4_takeTag_261 k2 x3 s))))))))))))
set_option maxRecDepth 100000 in
set_option maxHeartbeats 4000000 in
theorem xb_X4_takeTag_115 {l : Launch} {D : va_G} {A : Nat → ClassId} {B : Nat} {Z : State → Heap → Prop} {vF : Value} (uk : uK B Z vF)   {x1 : Int32} {k2 : Nat} {x3 : Int32} {s : uS} {r : (uS × Int32)} (hk2 : uSo k2 3) (h : fb_X4_takeTag_115  x1 k2 x3 s = some r) : GU l D A B Z mX4_takeTag 6 (r.1, some (.int r.2)) s 115 [(0, .ref (B + 6)), (1, .int x1), (2, .ref (B + k2)), (3, .int x3)] [] := by
  unfold fb_X4_takeTag_115 at h
  refine uu_iload_n dX4_takeTag_115 rfl (List.mem_of_getElem? (i := 3) rfl) ?_
  by_cases c116_0 : x3 = 3
  · replace h := uu_pos c116_0 h
    refine uu_tabE (tgt := 180) (off := 64) (v := 3) dX4_takeTag_116 c116_0 (by decide) (by decide) rfl (by decide) ?_
    refine uu_aload_n dX4_takeTag_180 rfl (List.mem_of_getElem? (i := 0) rfl) ?_
    refine uu_bipush (v := 10) dX4_takeTag_181 (by decide) ?_
    refine uu_iload_n dX4_takeTag_183 rfl (List.mem_of_getElem? (i := 1) rfl) ?_
    refine uu_bipush (v := 9) dX4_takeTag_184 (by decide) ?_
    obtain ⟨s1, e2, h⟩ := uu_ob h
    refine uu_cv (d1 := 1) (k := 6) (ci := 4) (T := TX4) (N := 9) (As := [.int 10, .int x1, .int 9]) (st := []) (st' := []) (xc_X4_pushList uk  e2) so_6.is (by decide) rfl kX4_pushList lX4_135 sX4_pushList (by decide) (Nat.le_of_ble_eq_true rfl) dX4_takeTag_186 rfl ?_
    refine uu_goto (tgt := 261) dX4_takeTag_189 (by decide) ?_
    refine uu_lv [2, 3] (lv' := [(2, .ref (B + k2)), (3, .int x3)]) rfl ?_
    exact xb_X4_takeTag_261 uk hk2 h
  replace h := uu_neg c116_0 h
  by_cases c116_1 : x3 = 4
  · replace h := uu_pos c116_1 h
    refine uu_tabE (tgt := 180) (off := 64) (v := 4) dX4_takeTag_116 c116_1 (by decide) (by decide) rfl (by decide) ?_
    refine uu_aload_n dX4_takeTag_180 rfl (List.mem_of_getElem? (i := 0) rfl) ?_
    refine uu_bipush (v := 10) dX4_takeTag_181 (by decide) ?_
    refine uu_iload_n dX4_takeTag_183 rfl (List.mem_of_getElem? (i := 1) rfl) ?_
    refine uu_bipush (v := 9) dX4_takeTag_184 (by decide) ?_
    obtain ⟨s3, e4, h⟩ := uu_ob h
    refine uu_cv (d1 := 1) (k := 6) (ci := 4) (T := TX4) (N := 9) (As := [.int 10, .int x1, .int 9]) (st := []) (st' := []) (xc_X4_pushList uk  e4) so_6.is (by decide) rfl kX4_pushList lX4_135 sX4_pushList (by decide) (Nat.le_of_ble_eq_true rfl) dX4_takeTag_186 rfl ?_
    refine uu_goto (tgt := 261) dX4_takeTag_189 (by decide) ?_
    refine uu_lv [2, 3] (lv' := [(2, .ref (B + k2)), (3, .int x3)]) rfl ?_
    exact xb_X4_takeTag_261 uk hk2 h
  replace h := uu_neg c116_1 h
  by_cases c116_2 : x3 = 5
  · replace h := uu_pos c116_2 h
    refine uu_tabE (tgt := 192) (off := 76) (v := 5) dX4_takeTag_116 c116_2 (by decide) (by decide) rfl (by decide) ?_
    refine uu_aload_n dX4_takeTag_192 rfl (List.mem_of_getElem? (i := 0) rfl) ?_
    refine uu_bipush (v := 10) dX4_takeTag_193 (by decide) ?_
    refine uu_iload_n dX4_takeTag_195 rfl (List.mem_of_getElem? (i := 1) rfl) ?_
    refine uu_bipush (v := 10) dX4_takeTag_196 (by decide) ?_
    obtain ⟨s5, e6, h⟩ := uu_ob h
    refine uu_cv (d1 := 1) (k := 6) (ci := 4) (T := TX4) (N := 9) (As := [.int 10, .int x1, .int 10]) (st := []) (st' := []) (xc_X4_pushList uk  e6) so_6.is (by decide) rfl kX4_pushList lX4_135 sX4_pushList (by decide) (Nat.le_of_ble_eq_true rfl) dX4_takeTag_198 rfl ?_
    refine uu_goto (tgt := 261) dX4_takeTag_201 (by decide) ?_
    refine uu_lv [2, 3] (lv' := [(2, .ref (B + k2)), (3, .int x3)]) rfl ?_
    exact xb_X4_takeTag_261 uk hk2 h
  replace h := uu_neg c116_2 h
  by_cases c116_3 : x3 = 6
  · replace h := uu_pos c116_3 h
    refine uu_tabE (tgt := 261) (off := 145) (v := 6) dX4_takeTag_116 c116_3 (by decide) (by decide) rfl (by decide) ?_
    refine uu_lv [2, 3] (lv' := [(2, .ref (B + k2)), (3, .int x3)]) rfl ?_
    exact xb_X4_takeTag_261 uk hk2 h
  replace h := uu_neg c116_3 h
  by_cases c116_4 : x3 = 7
  · replace h := uu_pos c116_4 h
    refine uu_tabE (tgt := 261) (off := 145) (v := 7) dX4_takeTag_116 c116_4 (by decide) (by decide) rfl (by decide) ?_
    refine uu_lv [2, 3] (lv' := [(2, .ref (B + k2)), (3, .int x3)]) rfl ?_
    exact xb_X4_takeTag_261 uk hk2 h
  replace h := uu_neg c116_4 h
  by_cases c116_5 : x3 = 8
  · replace h := uu_pos c116_5 h
    refine uu_tabE (tgt := 261) (off := 145) (v := 8) dX4_takeTag_116 c116_5 (by decide) (by decide) rfl (by decide) ?_
    refine uu_lv [2, 3] (lv' := [(2, .ref (B + k2)), (3, .int x3)]) rfl ?_
    exact xb_X4_takeTag_261 uk hk2 h
  replace h := uu_neg c116_5 h
  by_cases c116_6 : x3 = 9
  · replace h := uu_pos c116_6 h
    refine uu_tabE (tgt := 204) (off := 88) (v := 9) dX4_takeTag_116 c116_6 (by decide) (by decide) rfl (by decide) ?_
    refine uu_aload_n dX4_takeTag_204 rfl (List.mem_of_getElem? (i := 0) rfl) ?_
    refine uu_bipush (v := 11) dX4_takeTag_205 (by decide) ?_
    refine uu_iload_n dX4_takeTag_207 rfl (List.mem_of_getElem? (i := 1) rfl) ?_
    refine uu_iconst (v := 2) dX4_takeTag_208 (by decide) ?_
    obtain ⟨s7, e8, h⟩ := uu_ob h
    refine uu_cv (d1 := 1) (k := 6) (ci := 4) (T := TX4) (N := 9) (As := [.int 11, .int x1, .int 2]) (st := []) (st' := []) (xc_X4_pushList uk  e8) so_6.is (by decide) rfl kX4_pushList lX4_135 sX4_pushList (by decide) (Nat.le_of_ble_eq_true rfl) dX4_takeTag_209 rfl ?_
    refine uu_goto (tgt := 261) dX4_takeTag_212 (by decide) ?_
    refine uu_lv [2, 3] (lv' := [(2, .ref (B + k2)), (3, .int x3)]) rfl ?_
    exact xb_X4_takeTag_261 uk hk2 h
  replace h := uu_neg c116_6 h
  by_cases c116_7 : x3 = 10
  · replace h := uu_pos c116_7 h
    refine uu_tabE (tgt := 261) (off := 145) (v := 10) dX4_takeTag_116 c116_7 (by decide) (by decide) rfl (by decide) ?_
    refine uu_lv [2, 3] (lv' := [(2, .ref (B + k2)), (3, .int x3)]) rfl ?_
    exact xb_X4_takeTag_261 uk hk2 h
  replace h := uu_neg c116_7 h
  by_cases c116_8 : x3 = 11
  · replace h := uu_pos c116_8 h
    refine uu_tabE (tgt := 215) (off := 99) (v := 11) dX4_takeTag_116 c116_8 (by decide) (by decide) rfl (by decide) ?_
    refine uu_aload_n dX4_takeTag_215 rfl (List.mem_of_getElem? (i := 0) rfl) ?_
    refine uu_bipush (v := 9) dX4_takeTag_216 (by decide) ?_
    refine uu_iload_n dX4_takeTag_218 rfl (List.mem_of_getElem? (i := 1) rfl) ?_
    obtain ⟨s9, e10, h⟩ := uu_ob h
    refine uu_cv (d1 := 0) (k := 6) (ci := 4) (T := TX4) (N := 9) (As := [.int 9, .int x1]) (st := []) (st' := []) (xc_X4_push uk  e10) so_6.is (by decide) rfl kX4_push lX4_113 sX4_push (by decide) (Nat.le_of_ble_eq_true rfl) dX4_takeTag_219 rfl ?_
    refine uu_goto (tgt := 261) dX4_takeTag_222 (by decide) ?_
    refine uu_lv [2, 3] (lv' := [(2, .ref (B + k2)), (3, .int x3)]) rfl ?_
    exact xb_X4_takeTag_261 uk hk2 h
  replace h := uu_neg c116_8 h
  by_cases c116_9 : x3 = 12
  · replace h := uu_pos c116_9 h
    refine uu_tabE (tgt := 225) (off := 109) (v := 12) dX4_takeTag_116 c116_9 (by decide) (by decide) rfl (by decide) ?_
    refine uu_aload_n dX4_takeTag_225 rfl (List.mem_of_getElem? (i := 0) rfl) ?_
    refine uu_bipush (v := 10) dX4_takeTag_226 (by decide) ?_
    refine uu_iload_n dX4_takeTag_228 rfl (List.mem_of_getElem? (i := 1) rfl) ?_
    refine uu_bipush (v := 6) dX4_takeTag_229 (by decide) ?_
    obtain ⟨s11, e12, h⟩ := uu_ob h
    refine uu_cv (d1 := 1) (k := 6) (ci := 4) (T := TX4) (N := 9) (As := [.int 10, .int x1, .int 6]) (st := []) (st' := []) (xc_X4_pushList uk  e12) so_6.is (by decide) rfl kX4_pushList lX4_135 sX4_pushList (by decide) (Nat.le_of_ble_eq_true rfl) dX4_takeTag_231 rfl ?_
    refine uu_goto (tgt := 261) dX4_takeTag_234 (by decide) ?_
    refine uu_lv [2, 3] (lv' := [(2, .ref (B + k2)), (3, .int x3)]) rfl ?_
    exact xb_X4_takeTag_261 uk hk2 h
  replace h := uu_neg c116_9 h
  by_cases c116_10 : x3 = 13
  · replace h := uu_pos c116_10 h
    refine uu_tabE (tgt := 237) (off := 121) (v := 13) dX4_takeTag_116 c116_10 (by decide) (by decide) rfl (by decide) ?_
    refine uu_aload_n dX4_takeTag_237 rfl (List.mem_of_getElem? (i := 0) rfl) ?_
    refine uu_bipush (v := 11) dX4_takeTag_238 (by decide) ?_
    refine uu_iload_n dX4_takeTag_240 rfl (List.mem_of_getElem? (i := 1) rfl) ?_
    refine uu_bipush (v := 8) dX4_takeTag_241 (by decide) ?_
    obtain ⟨s13, e14, h⟩ := uu_ob h
    refine uu_cv (d1 := 1) (k := 6) (ci := 4) (T := TX4) (N := 9) (As := [.int 11, .int x1, .int 8]) (st := []) (st' := []) (xc_X4_pushList uk  e14) so_6.is (by decide) rfl kX4_pushList lX4_135 sX4_pushList (by decide) (Nat.le_of_ble_eq_true rfl) dX4_takeTag_243 rfl ?_
    refine uu_goto (tgt := 261) dX4_takeTag_246 (by decide) ?_
    refine uu_lv [2, 3] (lv' := [(2, .ref (B + k2)), (3, .int x3)]) rfl ?_
    exact xb_X4_takeTag_261 uk hk2 h
  replace h := uu_neg c116_10 h
  by_cases c116_11 : x3 = 14
  · replace h := uu_pos c116_11 h
    refine uu_tabE (tgt := 249) (off := 133) (v := 14) dX4_takeTag_116 c116_11 (by decide) (by decide) rfl (by decide) ?_
    refine uu_aload_n dX4_takeTag_249 rfl (List.mem_of_getElem? (i := 0) rfl) ?_
    refine uu_bipush (v := 10) dX4_takeTag_250 (by decide) ?_
    refine uu_iload_n dX4_takeTag_252 rfl (List.mem_of_getElem? (i := 1) rfl) ?_
    refine uu_bipush (v := 7) dX4_takeTag_253 (by decide) ?_
    obtain ⟨s15, e16, h⟩ := uu_ob h
    refine uu_cv (d1 := 1) (k := 6) (ci := 4) (T := TX4) (N := 9) (As := [.int 10, .int x1, .int 7]) (st := []) (st' := []) (xc_X4_pushList uk  e16) so_6.is (by decide) rfl kX4_pushList lX4_135 sX4_pushList (by decide) (Nat.le_of_ble_eq_true rfl) dX4_takeTag_255 rfl ?_
    refine uu_goto (tgt := 261) dX4_takeTag_258 (by decide) ?_
    refine uu_lv [2, 3] (lv' := [(2, .ref (B + k2)), (3, .int x3)]) rfl ?_
    exact xb_X4_takeTag_261 uk hk2 h
  replace h := uu_neg c116_11 h
  have cx116 : (x3).toInt < 3 ∨ 14 < (x3).toInt := by
    refine Decidable.byContradiction fun q => ?_
    rcases (show (x3).toInt = 3 ∨ (x3).toInt = 4 ∨ (x3).toInt = 5 ∨ (x3).toInt = 6 ∨ (x3).toInt = 7 ∨ (x3).toInt = 8 ∨ (x3).toInt = 9 ∨ (x3).toInt = 10 ∨ (x3).toInt = 11 ∨ (x3).toInt = 12 ∨ (x3).toInt = 13 ∨ (x3).toInt = 14 by omega) with q | q | q | q | q | q | q | q | q | q | q | q
    · exact c116_0 (sw_eq q (by decide))
    · exact c116_1 (sw_eq q (by decide))
    · exact c116_2 (sw_eq q (by decide))
    · exact c116_3 (sw_eq q (by decide))
    · exact c116_4 (sw_eq q (by decide))
    · exact c116_5 (sw_eq q (by decide))
    · exact c116_6 (sw_eq q (by decide))
    · exact c116_7 (sw_eq q (by decide))
    · exact c116_8 (sw_eq q (by decide))
    · exact c116_9 (sw_eq q (by decide))
    · exact c116_10 (sw_eq q (by decide))
    · exact c116_11 (sw_eq q (by decide))
  refine uu_tableOut (tgt := 261) dX4_takeTag_116 cx116 (by decide) ?_
  refine uu_lv [2, 3] (lv' := [(2, .ref (B + k2)), (3, .int x3)]) rfl ?_
  exact xb_X4_takeTag_261 uk hk2 h
def fn_X4_takeTag (x1 : Int32) (s : uS) : Option (uS × Int32) := (pgt 28 s 13 x1).bind fun j1 => if uSo j1 3 then ((fn_X2_placeIn kW_40 s).bind fun v5 => if v5 < 0 then (some (s, (0 : Int32))) else ((tget kS_2 (s.I j1 0)).bind fun v9 => (tget kS_3 v5).bind fun v12 => if (v9 &&& v12) = 0 then (some (s, (0 : Int32))) else ((tget kS_3 v5).bind fun v16 => (fn_X3_has j1 v16 s).bind fun v18 => if v18 = true then (some (s, (0 : Int32))) else ((tget kS_1 v5).bind fun v22 => (fn_X4_isLacking v22 s).bind fun v24 => if v24 = true then (some (s, (0 : Int32))) else ((tget kS_3 v5).bind fun v28 => if (4 : Int32) < v5 then (if ((wI s j1 5 ((s.I j1 5) ||| v28)).I j1 0) = 16 then (if v5 = 15 then (fb_X4_takeTag_115 x1 j1 v5 (wI (wI s j1 5 ((s.I j1 5) ||| v28)) j1 12 1)) else (fb_X4_takeTag_115 x1 j1 v5 (wI (wI s j1 5 ((s.I j1 5) ||| v28)) j1 12 0))) else (fb_X4_takeTag_115 x1 j1 v5 (wI s j1 5 ((s.I j1 5) ||| v28)))) else (fb_X4_takeTag_115 x1 j1 v5 (wI (wI s j1 5 ((s.I j1 5) ||| v28)) j1 6 v5))))))) else none
set_option maxRecDepth 100000 in
set_option maxHeartbeats 4000000 in
theorem xc_X4_takeTag {l : Launch} {D : va_G} {A : Nat → ClassId} {B : Nat} {Z : State → Heap → Prop} {vF : Value} (uk : uK B Z vF) {x1 : Int32} {s : uS} {r : (uS × Int32)}  (h : fn_X4_takeTag x1 s = some r) : CU l D A B Z 6 mX4_takeTag s [.ref (B + 6), .int x1] (r.1, some (.int r.2)) := by
  unfold fn_X4_takeTag at h
  refine cu_of rfl uk.1.1 (Nat.le_of_ble_eq_true rfl) ?_
  show GU _ _ _ _ _ _ _ _ _ 0 [(0, .ref (B + 6)), (1, .int x1)] []
  refine uu_aload_n dX4_takeTag_0 rfl (List.mem_of_getElem? (i := 0) rfl) ?_
  refine uu_geta (ci := 4) (N := 9) fX4_18 (by decide) so_6.is (by decide) (c := 13) (by decide) dX4_takeTag_1 ?_
  refine uu_iload_n dX4_takeTag_4 rfl (List.mem_of_getElem? (i := 1) rfl) ?_
  obtain ⟨j1, e2, h⟩ := uu_ob h
  refine uu_aald (t := 28) rfl (by decide) e2 dX4_takeTag_5 ?_
  obtain ⟨g3, h⟩ := uu_grd h
  refine uu_astore_n dX4_takeTag_6 rfl (by decide) rfl ?_
  refine uu_aload_n dX4_takeTag_7 rfl (List.mem_of_getElem? (i := 1) rfl) ?_
  refine uu_geta (ci := 4) (N := 9) fX4_10 (by decide) so_6.is (by decide) (c := 7) (by decide) dX4_takeTag_8 ?_
  obtain ⟨cq4, cp4, cv4, cw4⟩ := uk.2.1 40 _ rfl
  refine uu_ldcS cv4 dX4_takeTag_11 ?_
  obtain ⟨v5, e6, h⟩ := uu_ob h
  refine uu_cv (d1 := 5) (k := 7) (ci := 2) (T := TX2) (N := 9) (As := [.ref cq4]) (st := []) (st' := [.int v5]) (xc_X2_placeIn uk cw4 e6) so_7.is (by decide) rfl kX2_placeIn lX4_128 sX2_placeIn (by decide) (Nat.le_of_ble_eq_true rfl) dX4_takeTag_13 rfl ?_
  refine uu_istore_n dX4_takeTag_16 rfl (by decide) rfl ?_
  refine uu_iload_n dX4_takeTag_17 rfl (List.mem_of_getElem? (i := 0) rfl) ?_
  refine uu_if_lt (tgt := 62) dX4_takeTag_18 (by decide) (fun c7 => ?_) (fun c7 => ?_)
  · replace h := uu_pos c7 h
    refine uu_iconst (v := 0) dX4_takeTag_62 (by decide) ?_
    have hr := Option.some.inj h
    subst hr
    exact uu_iret rfl dX4_takeTag_63
  · replace h := uu_neg c7 h
    obtain ⟨cq8, hz8, ht8⟩ := uk.2.2 2 _ rfl
    refine uu_gets hz8 gsX4_146 dX4_takeTag_21 ?_
    refine uu_aload_n dX4_takeTag_24 rfl (List.mem_of_getElem? (i := 1) rfl) ?_
    refine uu_geti (ci := 3) (N := 15) fX4_161 (by decide) g3.is (by decide) (by decide) dX4_takeTag_25 ?_
    obtain ⟨v9, e10, h⟩ := uu_ob h
    refine uu_ti (xs := kS_2) ht8 e10 dX4_takeTag_28 ?_
    obtain ⟨cq11, hz11, ht11⟩ := uk.2.2 3 _ rfl
    refine uu_gets hz11 gsX4_162 dX4_takeTag_29 ?_
    refine uu_iload_n dX4_takeTag_32 rfl (List.mem_of_getElem? (i := 0) rfl) ?_
    obtain ⟨v12, e13, h⟩ := uu_ob h
    refine uu_ti (xs := kS_3) ht11 e13 dX4_takeTag_33 ?_
    refine uu_iand dX4_takeTag_34 ?_
    refine uu_if_eq (tgt := 62) dX4_takeTag_35 (by decide) (fun c14 => ?_) (fun c14 => ?_)
    · replace h := uu_pos c14 h
      refine uu_iconst (v := 0) dX4_takeTag_62 (by decide) ?_
      have hr := Option.some.inj h
      subst hr
      exact uu_iret rfl dX4_takeTag_63
    · replace h := uu_neg c14 h
      refine uu_aload_n dX4_takeTag_38 rfl (List.mem_of_getElem? (i := 1) rfl) ?_
      obtain ⟨cq15, hz15, ht15⟩ := uk.2.2 3 _ rfl
      refine uu_gets hz15 gsX4_162 dX4_takeTag_39 ?_
      refine uu_iload_n dX4_takeTag_42 rfl (List.mem_of_getElem? (i := 0) rfl) ?_
      obtain ⟨v16, e17, h⟩ := uu_ob h
      refine uu_ti (xs := kS_3) ht15 e17 dX4_takeTag_43 ?_
      obtain ⟨v18, e19, h⟩ := uu_ob h
      refine uu_cv (d1 := 0) (k := j1) (ci := 3) (T := TX3) (N := 15) (As := [.int v16]) (st := []) (st' := [.int (bI v18)]) (xc_X3_has uk g3 e19) g3.is (by decide) rfl kX3_has lX4_165 sX3_has (by decide) (Nat.le_of_ble_eq_true rfl) dX4_takeTag_44 rfl ?_
      refine uu_ifb_ne (tgt := 62) dX4_takeTag_47 (by decide) (fun c20 => ?_) (fun c20 => ?_)
      · replace h := uu_pos c20 h
        refine uu_iconst (v := 0) dX4_takeTag_62 (by decide) ?_
        have hr := Option.some.inj h
        subst hr
        exact uu_iret rfl dX4_takeTag_63
      · replace h := uu_neg c20 h
        refine uu_aload_n dX4_takeTag_50 rfl (List.mem_of_getElem? (i := 2) rfl) ?_
        obtain ⟨cq21, hz21, ht21⟩ := uk.2.2 1 _ rfl
        refine uu_gets hz21 gsX4_168 dX4_takeTag_51 ?_
        refine uu_iload_n dX4_takeTag_54 rfl (List.mem_of_getElem? (i := 0) rfl) ?_
        obtain ⟨v22, e23, h⟩ := uu_ob h
        refine uu_ti (xs := kS_1) ht21 e23 dX4_takeTag_55 ?_
        obtain ⟨v24, e25, h⟩ := uu_ob h
        refine uu_cv (d1 := 0) (k := 6) (ci := 4) (T := TX4) (N := 9) (As := [.int v22]) (st := []) (st' := [.int (bI v24)]) (xc_X4_isLacking uk  e25) so_6.is (by decide) rfl kX4_isLacking lX4_143 sX4_isLacking (by decide) (Nat.le_of_ble_eq_true rfl) dX4_takeTag_56 rfl ?_
        refine uu_ifb_eq (tgt := 64) dX4_takeTag_59 (by decide) (fun c26 => ?_) (fun c26 => ?_)
        · replace h := uu_neg c26 h
          refine uu_aload_n dX4_takeTag_64 rfl (List.mem_of_getElem? (i := 1) rfl) ?_
          refine uu_dup dX4_takeTag_65 rfl ?_
          refine uu_geti (ci := 3) (N := 15) fX4_171 (by decide) g3.is (by decide) (by decide) dX4_takeTag_66 ?_
          obtain ⟨cq27, hz27, ht27⟩ := uk.2.2 3 _ rfl
          refine uu_gets hz27 gsX4_162 dX4_takeTag_69 ?_
          refine uu_iload_n dX4_takeTag_72 rfl (List.mem_of_getElem? (i := 0) rfl) ?_
          obtain ⟨v28, e29, h⟩ := uu_ob h
          refine uu_ti (xs := kS_3) ht27 e29 dX4_takeTag_73 ?_
          refine uu_ior dX4_takeTag_74 ?_
          refine uu_puti (ft := .int) (ci := 3) (N := 15) fX4_171 ptX3 (Or.inl rfl) (by decide) g3.is (by decide) (by decide) (by decide +kernel) rfl rfl dX4_takeTag_75 ?_
          refine uu_iload_n dX4_takeTag_78 rfl (List.mem_of_getElem? (i := 0) rfl) ?_
          refine uu_iconst (v := 4) dX4_takeTag_79 (by decide) ?_
          refine uu_icmp_gt (tgt := 91) dX4_takeTag_80 (by decide) (fun c30 => ?_) (fun c30 => ?_)
          · replace h := uu_pos c30 h
            refine uu_aload_n dX4_takeTag_91 rfl (List.mem_of_getElem? (i := 1) rfl) ?_
            refine uu_geti (ci := 3) (N := 15) fX4_161 (by decide) g3.is (by decide) (by decide) dX4_takeTag_92 ?_
            refine uu_bipush (v := 16) dX4_takeTag_95 (by decide) ?_
            refine uu_icmp_ne (tgt := 115) dX4_takeTag_97 (by decide) (fun c31 => ?_) (fun c31 => ?_)
            · replace h := uu_neg c31 h
              refine uu_lv [2, 3, 1, 0] (lv' := [(0, .ref (B + 6)), (1, .int x1), (2, .ref (B + j1)), (3, .int v5)]) rfl ?_
              exact xb_X4_takeTag_115 uk g3 h
            · replace h := uu_pos c31 h
              refine uu_aload_n dX4_takeTag_100 rfl (List.mem_of_getElem? (i := 1) rfl) ?_
              refine uu_iload_n dX4_takeTag_101 rfl (List.mem_of_getElem? (i := 0) rfl) ?_
              refine uu_bipush (v := 15) dX4_takeTag_102 (by decide) ?_
              refine uu_icmp_ne (tgt := 111) dX4_takeTag_104 (by decide) (fun c32 => ?_) (fun c32 => ?_)
              · replace h := uu_neg c32 h
                refine uu_iconst (v := 0) dX4_takeTag_111 (by decide) ?_
                refine uu_puti (ft := .boolean) (ci := 3) (N := 15) fX4_177 ptX3 (Or.inl rfl) (by decide) g3.is (by decide) (by decide) (by decide +kernel) rfl rfl dX4_takeTag_112 ?_
                refine uu_lv [2, 3, 1, 0] (lv' := [(0, .ref (B + 6)), (1, .int x1), (2, .ref (B + j1)), (3, .int v5)]) rfl ?_
                exact xb_X4_takeTag_115 uk g3 h
              · replace h := uu_pos c32 h
                refine uu_iconst (v := 1) dX4_takeTag_107 (by decide) ?_
                refine uu_goto (tgt := 112) dX4_takeTag_108 (by decide) ?_
                refine uu_puti (ft := .boolean) (ci := 3) (N := 15) fX4_177 ptX3 (Or.inl rfl) (by decide) g3.is (by decide) (by decide) (by decide +kernel) rfl rfl dX4_takeTag_112 ?_
                refine uu_lv [2, 3, 1, 0] (lv' := [(0, .ref (B + 6)), (1, .int x1), (2, .ref (B + j1)), (3, .int v5)]) rfl ?_
                exact xb_X4_takeTag_115 uk g3 h
          · replace h := uu_neg c30 h
            refine uu_aload_n dX4_takeTag_83 rfl (List.mem_of_getElem? (i := 1) rfl) ?_
            refine uu_iload_n dX4_takeTag_84 rfl (List.mem_of_getElem? (i := 0) rfl) ?_
            refine uu_puti (ft := .int) (ci := 3) (N := 15) fX4_174 ptX3 (Or.inl rfl) (by decide) g3.is (by decide) (by decide) (by decide +kernel) rfl rfl dX4_takeTag_85 ?_
            refine uu_goto (tgt := 115) dX4_takeTag_88 (by decide) ?_
            refine uu_lv [2, 3, 1, 0] (lv' := [(0, .ref (B + 6)), (1, .int x1), (2, .ref (B + j1)), (3, .int v5)]) rfl ?_
            exact xb_X4_takeTag_115 uk g3 h
        · replace h := uu_pos c26 h
          refine uu_iconst (v := 0) dX4_takeTag_62 (by decide) ?_
          have hr := Option.some.inj h
          subst hr
          exact uu_iret rfl dX4_takeTag_63
abbrev mX4_takeNumber : hM := (yX4_takeNumber, cX4_takeNumber, 3, (some (.int)))
theorem dX4_takeNumber_39 : decode cX4_takeNumber 39 = .ok (.aload_n 2, 1) := by decide +kernel
theorem dX4_takeNumber_40 : decode cX4_takeNumber 40 = .ok (.aload_n 0, 1) := by decide +kernel
theorem dX4_takeNumber_41 : decode cX4_takeNumber 41 = .ok (.getfield 10, 3) := by decide +kernel
theorem fX4_184 : h_fl RX4 184 2 3 RX2 TX2 9 := ⟨rfl, by decide, inX2, h_t1 119 rfl rfl⟩
theorem dX4_takeNumber_44 : decode cX4_takeNumber 44 = .ok (.getfield 184, 3) := by decide +kernel
theorem fX4_187 : h_fl RX4 187 3 10 RX3 TX3 15 := ⟨rfl, by decide, inX3, h_t1 178 rfl rfl⟩
theorem dX4_takeNumber_47 : decode cX4_takeNumber 47 = .ok (.putfield 187, 3) := by decide +kernel
theorem dX4_takeNumber_50 : decode cX4_takeNumber 50 = .ok (.aload_n 0, 1) := by decide +kernel
theorem dX4_takeNumber_51 : decode cX4_takeNumber 51 = .ok (.iconst 1, 1) := by decide +kernel
theorem dX4_takeNumber_52 : decode cX4_takeNumber 52 = .ok (.invokevirtual 84, 3) := by decide +kernel
theorem dX4_takeNumber_55 : decode cX4_takeNumber 55 = .ok (.ireturn, 1) := by decide +kernel
theorem dX4_takeNumber_0 : decode cX4_takeNumber 0 = .ok (.aload_n 0, 1) := by decide +kernel
theorem dX4_takeNumber_1 : decode cX4_takeNumber 1 = .ok (.getfield 18, 3) := by decide +kernel
theorem dX4_takeNumber_4 : decode cX4_takeNumber 4 = .ok (.iload_n 1, 1) := by decide +kernel
theorem dX4_takeNumber_5 : decode cX4_takeNumber 5 = .ok (.aaload, 1) := by decide +kernel
theorem dX4_takeNumber_6 : decode cX4_takeNumber 6 = .ok (.astore_n 2, 1) := by decide +kernel
theorem dX4_takeNumber_7 : decode cX4_takeNumber 7 = .ok (.aload_n 0, 1) := by decide +kernel
theorem dX4_takeNumber_8 : decode cX4_takeNumber 8 = .ok (.getfield 10, 3) := by decide +kernel
theorem dX4_takeNumber_11 : decode cX4_takeNumber 11 = .ok (.getfield 37, 3) := by decide +kernel
theorem dX4_takeNumber_14 : decode cX4_takeNumber 14 = .ok (.iconst 2, 1) := by decide +kernel
theorem dX4_takeNumber_15 : decode cX4_takeNumber 15 = .ok (.if_icmp .ne 22, 3) := by decide +kernel
theorem dX4_takeNumber_37 : decode cX4_takeNumber 37 = .ok (.iconst 0, 1) := by decide +kernel
theorem dX4_takeNumber_38 : decode cX4_takeNumber 38 = .ok (.ireturn, 1) := by decide +kernel
theorem dX4_takeNumber_18 : decode cX4_takeNumber 18 = .ok (.aload_n 2, 1) := by decide +kernel
theorem dX4_takeNumber_19 : decode cX4_takeNumber 19 = .ok (.getfield 161, 3) := by decide +kernel
theorem dX4_takeNumber_22 : decode cX4_takeNumber 22 = .ok (.bipush 16, 2) := by decide +kernel
theorem dX4_takeNumber_24 : decode cX4_takeNumber 24 = .ok (.if_icmp .ne 15, 3) := by decide +kernel
theorem dX4_takeNumber_27 : decode cX4_takeNumber 27 = .ok (.aload_n 2, 1) := by decide +kernel
theorem dX4_takeNumber_28 : decode cX4_takeNumber 28 = .ok (.sipush 512, 3) := by decide +kernel
theorem dX4_takeNumber_31 : decode cX4_takeNumber 31 = .ok (.invokevirtual 165, 3) := by decide +kernel
theorem dX4_takeNumber_34 : decode cX4_takeNumber 34 = .ok (.ifCond .ne 5, 3) := by decide +kernel
def fb_X4_takeNumber_39  (k2 : Nat) (s : uS) : Option (uS × Int32) := (fn_X4_pop 1 (wI s k2 10 (s.I 7 3))).bind fun r1 => some (r1.1, r1.2)
set_option maxRecDepth 100000 in
set_option maxHeartbeats 4000000 in
theorem xb_X4_takeNumber_39 {l : Launch} {D : va_G} {A : Nat → ClassId} {B : Nat} {Z : State → Heap → Prop} {vF : Value} (uk : uK B Z vF)   {k2 : Nat} {s : uS} {r : (uS × Int32)} (hk2 : uSo k2 3) (h : fb_X4_takeNumber_39  k2 s = some r) : GU l D A B Z mX4_takeNumber 1 (r.1, some (.int r.2)) s 39 [(0, .ref (B + 6)), (2, .ref (B + k2))] [] := by
  unfold fb_X4_takeNumber_39 at h
  refine uu_aload_n dX4_takeNumber_39 rfl (List.mem_of_getElem? (i := 1) rfl) ?_
  refine uu_aload_n dX4_takeNumber_40 rfl (List.mem_of_getElem? (i := 0) rfl) ?_
  refine uu_geta (ci := 4) (N := 9) fX4_10 (by decide) so_6.is (by decide) (c := 7) (by decide) dX4_takeNumber_41 ?_
  refine uu_geti (ci := 2) (N := 9) fX4_184 (by decide) so_7.is (by decide) (by decide) dX4_takeNumber_44 ?_
  refine uu_puti (ft := .int) (ci := 3) (N := 15) fX4_187 ptX3 (Or.inl rfl) (by decide) hk2.is (by decide) (by decide) (by decide +kernel) rfl rfl dX4_takeNumber_47 ?_
  refine uu_aload_n dX4_takeNumber_50 rfl (List.mem_of_getElem? (i := 0) rfl) ?_
  refine uu_iconst (v := 1) dX4_takeNumber_51 (by decide) ?_
  obtain ⟨r1, e2, h⟩ := uu_ob h
  refine uu_cv (d1 := 0) (k := 6) (ci := 4) (T := TX4) (N := 9) (As := [.int 1]) (st := []) (st' := [.int r1.2]) (xc_X4_pop uk  e2) so_6.is (by decide) rfl kX4_pop lX4_84 sX4_pop (by decide) (Nat.le_of_ble_eq_true rfl) dX4_takeNumber_52 rfl ?_
  have hr := Option.some.inj h
  subst hr
  exact uu_iret rfl dX4_takeNumber_55
def fn_X4_takeNumber (x1 : Int32) (s : uS) : Option (uS × Int32) := (pgt 28 s 13 x1).bind fun j1 => if uSo j1 3 then (if (s.I 7 2) = 2 then (if (s.I j1 0) = 16 then ((fn_X3_has j1 512 s).bind fun v6 => if v6 = true then (fb_X4_takeNumber_39 j1 s) else (some (s, (0 : Int32)))) else (fb_X4_takeNumber_39 j1 s)) else (some (s, (0 : Int32)))) else none
set_option maxRecDepth 100000 in
set_option maxHeartbeats 4000000 in
theorem xc_X4_takeNumber {l : Launch} {D : va_G} {A : Nat → ClassId} {B : Nat} {Z : State → Heap → Prop} {vF : Value} (uk : uK B Z vF) {x1 : Int32} {s : uS} {r : (uS × Int32)}  (h : fn_X4_takeNumber x1 s = some r) : CU l D A B Z 1 mX4_takeNumber s [.ref (B + 6), .int x1] (r.1, some (.int r.2)) := by
  unfold fn_X4_takeNumber at h
  refine cu_of rfl uk.1.1 (Nat.le_of_ble_eq_true rfl) ?_
  show GU _ _ _ _ _ _ _ _ _ 0 [(0, .ref (B + 6)), (1, .int x1)] []
  refine uu_aload_n dX4_takeNumber_0 rfl (List.mem_of_getElem? (i := 0) rfl) ?_
  refine uu_geta (ci := 4) (N := 9) fX4_18 (by decide) so_6.is (by decide) (c := 13) (by decide) dX4_takeNumber_1 ?_
  refine uu_iload_n dX4_takeNumber_4 rfl (List.mem_of_getElem? (i := 1) rfl) ?_
  obtain ⟨j1, e2, h⟩ := uu_ob h
  refine uu_aald (t := 28) rfl (by decide) e2 dX4_takeNumber_5 ?_
  obtain ⟨g3, h⟩ := uu_grd h
  refine uu_astore_n dX4_takeNumber_6 rfl (by decide) rfl ?_
  refine uu_aload_n dX4_takeNumber_7 rfl (List.mem_of_getElem? (i := 1) rfl) ?_
  refine uu_geta (ci := 4) (N := 9) fX4_10 (by decide) so_6.is (by decide) (c := 7) (by decide) dX4_takeNumber_8 ?_
  refine uu_geti (ci := 2) (N := 9) fX4_37 (by decide) so_7.is (by decide) (by decide) dX4_takeNumber_11 ?_
  refine uu_iconst (v := 2) dX4_takeNumber_14 (by decide) ?_
  refine uu_icmp_ne (tgt := 37) dX4_takeNumber_15 (by decide) (fun c4 => ?_) (fun c4 => ?_)
  · replace h := uu_neg c4 h
    refine uu_iconst (v := 0) dX4_takeNumber_37 (by decide) ?_
    have hr := Option.some.inj h
    subst hr
    exact uu_iret rfl dX4_takeNumber_38
  · replace h := uu_pos c4 h
    refine uu_aload_n dX4_takeNumber_18 rfl (List.mem_of_getElem? (i := 0) rfl) ?_
    refine uu_geti (ci := 3) (N := 15) fX4_161 (by decide) g3.is (by decide) (by decide) dX4_takeNumber_19 ?_
    refine uu_bipush (v := 16) dX4_takeNumber_22 (by decide) ?_
    refine uu_icmp_ne (tgt := 39) dX4_takeNumber_24 (by decide) (fun c5 => ?_) (fun c5 => ?_)
    · replace h := uu_neg c5 h
      refine uu_lv [1, 0] (lv' := [(0, .ref (B + 6)), (2, .ref (B + j1))]) rfl ?_
      exact xb_X4_takeNumber_39 uk g3 h
    · replace h := uu_pos c5 h
      refine uu_aload_n dX4_takeNumber_27 rfl (List.mem_of_getElem? (i := 0) rfl) ?_
      refine uu_sipush (v := 512) dX4_takeNumber_28 (by decide) ?_
      obtain ⟨v6, e7, h⟩ := uu_ob h
      refine uu_cv (d1 := 0) (k := j1) (ci := 3) (T := TX3) (N := 15) (As := [.int 512]) (st := []) (st' := [.int (bI v6)]) (xc_X3_has uk g3 e7) g3.is (by decide) rfl kX3_has lX4_165 sX3_has (by decide) (Nat.le_of_ble_eq_true rfl) dX4_takeNumber_31 rfl ?_
      refine uu_ifb_ne (tgt := 39) dX4_takeNumber_34 (by decide) (fun c8 => ?_) (fun c8 => ?_)
      · replace h := uu_pos c8 h
        refine uu_lv [1, 0] (lv' := [(0, .ref (B + 6)), (2, .ref (B + j1))]) rfl ?_
        exact xb_X4_takeNumber_39 uk g3 h
      · replace h := uu_neg c8 h
        refine uu_iconst (v := 0) dX4_takeNumber_37 (by decide) ?_
        have hr := Option.some.inj h
        subst hr
        exact uu_iret rfl dX4_takeNumber_38
abbrev mX4_openList : hM := (yX4_openList, cX4_openList, 2, (some (.int)))
theorem dX4_openList_0 : decode cX4_openList 0 = .ok (.aload_n 0, 1) := by decide +kernel
theorem dX4_openList_1 : decode cX4_openList 1 = .ok (.dup, 1) := by decide +kernel
theorem dX4_openList_2 : decode cX4_openList 2 = .ok (.getfield 41, 3) := by decide +kernel
theorem dX4_openList_5 : decode cX4_openList 5 = .ok (.iconst 1, 1) := by decide +kernel
theorem dX4_openList_6 : decode cX4_openList 6 = .ok (.isub, 1) := by decide +kernel
theorem dX4_openList_7 : decode cX4_openList 7 = .ok (.putfield 41, 3) := by decide +kernel
theorem dX4_openList_10 : decode cX4_openList 10 = .ok (.aload_n 0, 1) := by decide +kernel
theorem dX4_openList_11 : decode cX4_openList 11 = .ok (.bipush 12, 2) := by decide +kernel
theorem dX4_openList_13 : decode cX4_openList 13 = .ok (.iload_n 1, 1) := by decide +kernel
theorem dX4_openList_14 : decode cX4_openList 14 = .ok (.invokevirtual 113, 3) := by decide +kernel
theorem dX4_openList_17 : decode cX4_openList 17 = .ok (.aload_n 0, 1) := by decide +kernel
theorem dX4_openList_18 : decode cX4_openList 18 = .ok (.bipush 10, 2) := by decide +kernel
theorem dX4_openList_20 : decode cX4_openList 20 = .ok (.iload_n 1, 1) := by decide +kernel
theorem dX4_openList_21 : decode cX4_openList 21 = .ok (.invokevirtual 113, 3) := by decide +kernel
theorem dX4_openList_24 : decode cX4_openList 24 = .ok (.iconst 1, 1) := by decide +kernel
theorem dX4_openList_25 : decode cX4_openList 25 = .ok (.ireturn, 1) := by decide +kernel
def fn_X4_openList (x1 : Int32) (s : uS) : Option (uS × Int32) := (fn_X4_push 12 x1 (wI s 6 5 ((s.I 6 5) - 1))).bind fun s1 => (fn_X4_push 10 x1 s1).bind fun s3 => some (s3, (1 : Int32))
set_option maxRecDepth 100000 in
set_option maxHeartbeats 4000000 in
theorem xc_X4_openList {l : Launch} {D : va_G} {A : Nat → ClassId} {B : Nat} {Z : State → Heap → Prop} {vF : Value} (uk : uK B Z vF) {x1 : Int32} {s : uS} {r : (uS × Int32)}  (h : fn_X4_openList x1 s = some r) : CU l D A B Z 1 mX4_openList s [.ref (B + 6), .int x1] (r.1, some (.int r.2)) := by
  unfold fn_X4_openList at h
  refine cu_of rfl uk.1.1 (Nat.le_of_ble_eq_true rfl) ?_
  show GU _ _ _ _ _ _ _ _ _ 0 [(0, .ref (B + 6)), (1, .int x1)] []
  refine uu_aload_n dX4_openList_0 rfl (List.mem_of_getElem? (i := 0) rfl) ?_
  refine uu_dup dX4_openList_1 rfl ?_
  refine uu_geti (ci := 4) (N := 9) fX4_41 (by decide) so_6.is (by decide) (by decide) dX4_openList_2 ?_
  refine uu_iconst (v := 1) dX4_openList_5 (by decide) ?_
  refine uu_isub dX4_openList_6 ?_
  refine uu_puti (ft := .int) (ci := 4) (N := 9) fX4_41 ptX4 (Or.inl rfl) (by decide) so_6.is (by decide) (by decide) (by decide +kernel) rfl rfl dX4_openList_7 ?_
  refine uu_aload_n dX4_openList_10 rfl (List.mem_of_getElem? (i := 0) rfl) ?_
  refine uu_bipush (v := 12) dX4_openList_11 (by decide) ?_
  refine uu_iload_n dX4_openList_13 rfl (List.mem_of_getElem? (i := 1) rfl) ?_
  obtain ⟨s1, e2, h⟩ := uu_ob h
  refine uu_cv (d1 := 0) (k := 6) (ci := 4) (T := TX4) (N := 9) (As := [.int 12, .int x1]) (st := []) (st' := []) (xc_X4_push uk  e2) so_6.is (by decide) rfl kX4_push lX4_113 sX4_push (by decide) (Nat.le_of_ble_eq_true rfl) dX4_openList_14 rfl ?_
  refine uu_aload_n dX4_openList_17 rfl (List.mem_of_getElem? (i := 0) rfl) ?_
  refine uu_bipush (v := 10) dX4_openList_18 (by decide) ?_
  refine uu_iload_n dX4_openList_20 rfl (List.mem_of_getElem? (i := 1) rfl) ?_
  obtain ⟨s3, e4, h⟩ := uu_ob h
  refine uu_cv (d1 := 0) (k := 6) (ci := 4) (T := TX4) (N := 9) (As := [.int 10, .int x1]) (st := []) (st' := []) (xc_X4_push uk  e4) so_6.is (by decide) rfl kX4_push lX4_113 sX4_push (by decide) (Nat.le_of_ble_eq_true rfl) dX4_openList_21 rfl ?_
  refine uu_iconst (v := 1) dX4_openList_24 (by decide) ?_
  have hr := Option.some.inj h
  subst hr
  exact uu_iret rfl dX4_openList_25
abbrev mX4_moreStrings : hM := (yX4_moreStrings, cX4_moreStrings, 2, (some (.int)))
theorem dX4_moreStrings_0 : decode cX4_moreStrings 0 = .ok (.aload_n 0, 1) := by decide +kernel
theorem dX4_moreStrings_1 : decode cX4_moreStrings 1 = .ok (.getfield 10, 3) := by decide +kernel
theorem dX4_moreStrings_4 : decode cX4_moreStrings 4 = .ok (.bipush 44, 2) := by decide +kernel
theorem dX4_moreStrings_6 : decode cX4_moreStrings 6 = .ok (.invokevirtual 61, 3) := by decide +kernel
theorem dX4_moreStrings_9 : decode cX4_moreStrings 9 = .ok (.ifCond .eq 12, 3) := by decide +kernel
theorem dX4_moreStrings_21 : decode cX4_moreStrings 21 = .ok (.aload_n 0, 1) := by decide +kernel
theorem dX4_moreStrings_22 : decode cX4_moreStrings 22 = .ok (.getfield 10, 3) := by decide +kernel
theorem dX4_moreStrings_25 : decode cX4_moreStrings 25 = .ok (.bipush 93, 2) := by decide +kernel
theorem dX4_moreStrings_27 : decode cX4_moreStrings 27 = .ok (.invokevirtual 61, 3) := by decide +kernel
theorem dX4_moreStrings_30 : decode cX4_moreStrings 30 = .ok (.ifCond .eq 11, 3) := by decide +kernel
theorem dX4_moreStrings_41 : decode cX4_moreStrings 41 = .ok (.iconst 0, 1) := by decide +kernel
theorem dX4_moreStrings_42 : decode cX4_moreStrings 42 = .ok (.ireturn, 1) := by decide +kernel
theorem dX4_moreStrings_33 : decode cX4_moreStrings 33 = .ok (.aload_n 0, 1) := by decide +kernel
theorem dX4_moreStrings_34 : decode cX4_moreStrings 34 = .ok (.iconst 1, 1) := by decide +kernel
theorem dX4_moreStrings_35 : decode cX4_moreStrings 35 = .ok (.invokevirtual 84, 3) := by decide +kernel
theorem dX4_moreStrings_38 : decode cX4_moreStrings 38 = .ok (.goto 4, 3) := by decide +kernel
theorem dX4_moreStrings_12 : decode cX4_moreStrings 12 = .ok (.aload_n 0, 1) := by decide +kernel
theorem dX4_moreStrings_13 : decode cX4_moreStrings 13 = .ok (.bipush 10, 2) := by decide +kernel
theorem dX4_moreStrings_15 : decode cX4_moreStrings 15 = .ok (.iload_n 1, 1) := by decide +kernel
theorem dX4_moreStrings_16 : decode cX4_moreStrings 16 = .ok (.invokevirtual 113, 3) := by decide +kernel
theorem dX4_moreStrings_19 : decode cX4_moreStrings 19 = .ok (.iconst 1, 1) := by decide +kernel
theorem dX4_moreStrings_20 : decode cX4_moreStrings 20 = .ok (.ireturn, 1) := by decide +kernel
def fn_X4_moreStrings (x1 : Int32) (s : uS) : Option (uS × Int32) := (fn_X2_isSign 44 s).bind fun v1 => if v1 = true then ((fn_X4_push 10 x1 s).bind fun s9 => some (s9, (1 : Int32))) else ((fn_X2_isSign 93 s).bind fun v4 => if v4 = true then ((fn_X4_pop 1 s).bind fun r7 => some (r7.1, r7.2)) else (some (s, (0 : Int32))))
set_option maxRecDepth 100000 in
set_option maxHeartbeats 4000000 in
theorem xc_X4_moreStrings {l : Launch} {D : va_G} {A : Nat → ClassId} {B : Nat} {Z : State → Heap → Prop} {vF : Value} (uk : uK B Z vF) {x1 : Int32} {s : uS} {r : (uS × Int32)}  (h : fn_X4_moreStrings x1 s = some r) : CU l D A B Z 1 mX4_moreStrings s [.ref (B + 6), .int x1] (r.1, some (.int r.2)) := by
  unfold fn_X4_moreStrings at h
  refine cu_of rfl uk.1.1 (Nat.le_of_ble_eq_true rfl) ?_
  show GU _ _ _ _ _ _ _ _ _ 0 [(0, .ref (B + 6)), (1, .int x1)] []
  refine uu_aload_n dX4_moreStrings_0 rfl (List.mem_of_getElem? (i := 0) rfl) ?_
  refine uu_geta (ci := 4) (N := 9) fX4_10 (by decide) so_6.is (by decide) (c := 7) (by decide) dX4_moreStrings_1 ?_
  refine uu_bipush (v := 44) dX4_moreStrings_4 (by decide) ?_
  obtain ⟨v1, e2, h⟩ := uu_ob h
  refine uu_cv (d1 := 0) (k := 7) (ci := 2) (T := TX2) (N := 9) (As := [.int 44]) (st := []) (st' := [.int (bI v1)]) (xc_X2_isSign uk  e2) so_7.is (by decide) rfl kX2_isSign lX4_61 sX2_isSign (by decide) (Nat.le_of_ble_eq_true rfl) dX4_moreStrings_6 rfl ?_
  refine uu_ifb_eq (tgt := 21) dX4_moreStrings_9 (by decide) (fun c3 => ?_) (fun c3 => ?_)
  · replace h := uu_neg c3 h
    refine uu_aload_n dX4_moreStrings_21 rfl (List.mem_of_getElem? (i := 0) rfl) ?_
    refine uu_geta (ci := 4) (N := 9) fX4_10 (by decide) so_6.is (by decide) (c := 7) (by decide) dX4_moreStrings_22 ?_
    refine uu_bipush (v := 93) dX4_moreStrings_25 (by decide) ?_
    obtain ⟨v4, e5, h⟩ := uu_ob h
    refine uu_cv (d1 := 0) (k := 7) (ci := 2) (T := TX2) (N := 9) (As := [.int 93]) (st := []) (st' := [.int (bI v4)]) (xc_X2_isSign uk  e5) so_7.is (by decide) rfl kX2_isSign lX4_61 sX2_isSign (by decide) (Nat.le_of_ble_eq_true rfl) dX4_moreStrings_27 rfl ?_
    refine uu_ifb_eq (tgt := 41) dX4_moreStrings_30 (by decide) (fun c6 => ?_) (fun c6 => ?_)
    · replace h := uu_neg c6 h
      refine uu_iconst (v := 0) dX4_moreStrings_41 (by decide) ?_
      have hr := Option.some.inj h
      subst hr
      exact uu_iret rfl dX4_moreStrings_42
    · replace h := uu_pos c6 h
      refine uu_aload_n dX4_moreStrings_33 rfl (List.mem_of_getElem? (i := 0) rfl) ?_
      refine uu_iconst (v := 1) dX4_moreStrings_34 (by decide) ?_
      obtain ⟨r7, e8, h⟩ := uu_ob h
      refine uu_cv (d1 := 0) (k := 6) (ci := 4) (T := TX4) (N := 9) (As := [.int 1]) (st := []) (st' := [.int r7.2]) (xc_X4_pop uk  e8) so_6.is (by decide) rfl kX4_pop lX4_84 sX4_pop (by decide) (Nat.le_of_ble_eq_true rfl) dX4_moreStrings_35 rfl ?_
      refine uu_goto (tgt := 42) dX4_moreStrings_38 (by decide) ?_
      have hr := Option.some.inj h
      subst hr
      exact uu_iret rfl dX4_moreStrings_42
  · replace h := uu_pos c3 h
    refine uu_aload_n dX4_moreStrings_12 rfl (List.mem_of_getElem? (i := 0) rfl) ?_
    refine uu_bipush (v := 10) dX4_moreStrings_13 (by decide) ?_
    refine uu_iload_n dX4_moreStrings_15 rfl (List.mem_of_getElem? (i := 1) rfl) ?_
    obtain ⟨s9, e10, h⟩ := uu_ob h
    refine uu_cv (d1 := 0) (k := 6) (ci := 4) (T := TX4) (N := 9) (As := [.int 10, .int x1]) (st := []) (st' := []) (xc_X4_push uk  e10) so_6.is (by decide) rfl kX4_push lX4_113 sX4_push (by decide) (Nat.le_of_ble_eq_true rfl) dX4_moreStrings_16 rfl ?_
    refine uu_iconst (v := 1) dX4_moreStrings_19 (by decide) ?_
    have hr := Option.some.inj h
    subst hr
    exact uu_iret rfl dX4_moreStrings_20
abbrev mX4_isBoxName : hM := (yX4_isBoxName, cX4_isBoxName, 4, (some (.boolean)))
theorem dX4_isBoxName_7 : decode cX4_isBoxName 7 = .ok (.iload_n 2, 1) := by decide +kernel
theorem dX4_isBoxName_8 : decode cX4_isBoxName 8 = .ok (.aload_n 0, 1) := by decide +kernel
theorem fX4_207 : h_fl RX4 207 9 2 RX9 TX9 6 := ⟨rfl, by decide, inX9, h_t1 79 rfl rfl⟩
theorem dX4_isBoxName_9 : decode cX4_isBoxName 9 = .ok (.getfield 207, 3) := by decide +kernel
theorem dX4_isBoxName_12 : decode cX4_isBoxName 12 = .ok (.iload_n 1, 1) := by decide +kernel
theorem dX4_isBoxName_13 : decode cX4_isBoxName 13 = .ok (.iaload, 1) := by decide +kernel
theorem dX4_isBoxName_14 : decode cX4_isBoxName 14 = .ok (.if_icmp .ge 36, 3) := by decide +kernel
theorem dX4_isBoxName_50 : decode cX4_isBoxName 50 = .ok (.aload_n 0, 1) := by decide +kernel
theorem dX4_isBoxName_51 : decode cX4_isBoxName 51 = .ok (.iload_n 1, 1) := by decide +kernel
theorem lX4_245 : Cond.methodLink RX4 245 mX9_lengthOf.1 ∈ lw_g := h_t5 116 rfl rfl
theorem dX4_isBoxName_52 : decode cX4_isBoxName 52 = .ok (.invokevirtual 245, 3) := by decide +kernel
theorem dX4_isBoxName_55 : decode cX4_isBoxName 55 = .ok (.ifCond .le 17, 3) := by decide +kernel
theorem dX4_isBoxName_72 : decode cX4_isBoxName 72 = .ok (.iconst 0, 1) := by decide +kernel
theorem dX4_isBoxName_73 : decode cX4_isBoxName 73 = .ok (.ireturn, 1) := by decide +kernel
theorem dX4_isBoxName_58 : decode cX4_isBoxName 58 = .ok (.aload_n 0, 1) := by decide +kernel
theorem dX4_isBoxName_59 : decode cX4_isBoxName 59 = .ok (.iload_n 1, 1) := by decide +kernel
theorem dX4_isBoxName_60 : decode cX4_isBoxName 60 = .ok (.invokevirtual 245, 3) := by decide +kernel
theorem dX4_isBoxName_63 : decode cX4_isBoxName 63 = .ok (.bipush 20, 2) := by decide +kernel
theorem dX4_isBoxName_65 : decode cX4_isBoxName 65 = .ok (.if_icmp .gt 7, 3) := by decide +kernel
theorem dX4_isBoxName_68 : decode cX4_isBoxName 68 = .ok (.iconst 1, 1) := by decide +kernel
theorem dX4_isBoxName_69 : decode cX4_isBoxName 69 = .ok (.goto 4, 3) := by decide +kernel
theorem dX4_isBoxName_17 : decode cX4_isBoxName 17 = .ok (.aload_n 0, 1) := by decide +kernel
theorem fX4_212 : h_fl RX4 212 9 0 RX9 TX9 6 := ⟨rfl, by decide, inX9, h_t1 63 rfl rfl⟩
theorem dX4_isBoxName_18 : decode cX4_isBoxName 18 = .ok (.getfield 212, 3) := by decide +kernel
theorem dX4_isBoxName_21 : decode cX4_isBoxName 21 = .ok (.iload_n 2, 1) := by decide +kernel
theorem dX4_isBoxName_22 : decode cX4_isBoxName 22 = .ok (.baload, 1) := by decide +kernel
theorem dX4_isBoxName_23 : decode cX4_isBoxName 23 = .ok (.istore_n 3, 1) := by decide +kernel
theorem dX4_isBoxName_24 : decode cX4_isBoxName 24 = .ok (.iload_n 3, 1) := by decide +kernel
theorem dX4_isBoxName_25 : decode cX4_isBoxName 25 = .ok (.bipush 32, 2) := by decide +kernel
theorem dX4_isBoxName_27 : decode cX4_isBoxName 27 = .ok (.if_icmp .lt 15, 3) := by decide +kernel
theorem dX4_isBoxName_42 : decode cX4_isBoxName 42 = .ok (.iconst 0, 1) := by decide +kernel
theorem dX4_isBoxName_43 : decode cX4_isBoxName 43 = .ok (.ireturn, 1) := by decide +kernel
theorem dX4_isBoxName_30 : decode cX4_isBoxName 30 = .ok (.iload_n 3, 1) := by decide +kernel
theorem dX4_isBoxName_31 : decode cX4_isBoxName 31 = .ok (.bipush 126, 2) := by decide +kernel
theorem dX4_isBoxName_33 : decode cX4_isBoxName 33 = .ok (.if_icmp .gt 9, 3) := by decide +kernel
theorem dX4_isBoxName_36 : decode cX4_isBoxName 36 = .ok (.iload_n 3, 1) := by decide +kernel
theorem dX4_isBoxName_37 : decode cX4_isBoxName 37 = .ok (.bipush 34, 2) := by decide +kernel
theorem dX4_isBoxName_39 : decode cX4_isBoxName 39 = .ok (.if_icmp .ne 5, 3) := by decide +kernel
theorem dX4_isBoxName_44 : decode cX4_isBoxName 44 = .ok (.iinc 2 1, 3) := by decide +kernel
theorem dX4_isBoxName_47 : decode cX4_isBoxName 47 = .ok (.goto (-40), 3) := by decide +kernel
theorem dX4_isBoxName_0 : decode cX4_isBoxName 0 = .ok (.aload_n 0, 1) := by decide +kernel
theorem fX4_204 : h_fl RX4 204 9 1 RX9 TX9 6 := ⟨rfl, by decide, inX9, h_t1 71 rfl rfl⟩
theorem dX4_isBoxName_1 : decode cX4_isBoxName 1 = .ok (.getfield 204, 3) := by decide +kernel
theorem dX4_isBoxName_4 : decode cX4_isBoxName 4 = .ok (.iload_n 1, 1) := by decide +kernel
theorem dX4_isBoxName_5 : decode cX4_isBoxName 5 = .ok (.iaload, 1) := by decide +kernel
theorem dX4_isBoxName_6 : decode cX4_isBoxName 6 = .ok (.istore_n 2, 1) := by decide +kernel
def fb_X4_isBoxName_7 (K7 : Nat → Int32 → Int32 → uS → Option Bool) (k0 : Nat) (x1 : Int32) (x2 : Int32) (s : uS) : Option Bool := (iget 20 s (k0 + 3) x1).bind fun v1 => if v1 ≤ x2 then ((fn_X9_lengthOf k0 x1 s).bind fun v4 => if v4 ≤ 0 then (some false) else ((fn_X9_lengthOf k0 x1 s).bind fun v7 => if (20 : Int32) < v7 then (some false) else (some true))) else ((iget 21 s (k0 + 1) x2).bind fun v10 => if v10 < 32 then (some false) else (if (126 : Int32) < v10 then (some false) else (if v10 = 34 then (some false) else (K7 k0 x1 (x2 + 1) s))))
set_option maxRecDepth 100000 in
set_option maxHeartbeats 4000000 in
theorem xb_X4_isBoxName_7 {l : Launch} {D : va_G} {A : Nat → ClassId} {B : Nat} {Z : State → Heap → Prop} {vF : Value} (uk : uK B Z vF) {K7 : Nat → Int32 → Int32 → uS → Option Bool} (hK7 : ∀ (k0 : Nat) (x1 : Int32) (x2 : Int32) (hk0 : uSo k0 9) (s : uS) (r : Bool), K7 k0 x1 x2 s = some r → GU l D A B Z mX4_isBoxName 1 (s, some (.int (bI r))) s 7 [(0, .ref (B + k0)), (1, .int x1), (2, .int x2)] []) {k0 : Nat} {x1 : Int32} {x2 : Int32} {s : uS} {r : Bool} (hk0 : uSo k0 9) (h : fb_X4_isBoxName_7 K7 k0 x1 x2 s = some r) : GU l D A B Z mX4_isBoxName 1 (s, some (.int (bI r))) s 7 [(0, .ref (B + k0)), (1, .int x1), (2, .int x2)] [] := by
  unfold fb_X4_isBoxName_7 at h
  refine uu_iload_n dX4_isBoxName_7 rfl (List.mem_of_getElem? (i := 2) rfl) ?_
  refine uu_aload_n dX4_isBoxName_8 rfl (List.mem_of_getElem? (i := 0) rfl) ?_
  refine uu_getc (ci := 9) (N := 6) fX4_207 (by decide) hk0.is (by decide) (c := 3) (by decide) (k2 := k0 + 3) rfl dX4_isBoxName_9 ?_
  refine uu_iload_n dX4_isBoxName_12 rfl (List.mem_of_getElem? (i := 1) rfl) ?_
  obtain ⟨v1, e2, h⟩ := uu_ob h
  refine uu_iald e2 dX4_isBoxName_13 ?_
  refine uu_icmp_ge (tgt := 50) dX4_isBoxName_14 (by decide) (fun c3 => ?_) (fun c3 => ?_)
  · replace h := uu_pos c3 h
    refine uu_aload_n dX4_isBoxName_50 rfl (List.mem_of_getElem? (i := 0) rfl) ?_
    refine uu_iload_n dX4_isBoxName_51 rfl (List.mem_of_getElem? (i := 1) rfl) ?_
    obtain ⟨v4, e5, h⟩ := uu_ob h
    refine uu_cv (d1 := 0) (k := k0) (ci := 9) (T := TX9) (N := 6) (As := [.int x1]) (st := []) (st' := [.int v4]) (xc_X9_lengthOf uk hk0 e5) hk0.is (by decide) rfl kX9_lengthOf lX4_245 sX9_lengthOf (by decide) (Nat.le_of_ble_eq_true rfl) dX4_isBoxName_52 rfl ?_
    refine uu_if_le (tgt := 72) dX4_isBoxName_55 (by decide) (fun c6 => ?_) (fun c6 => ?_)
    · replace h := uu_pos c6 h
      refine uu_iconst (v := 0) dX4_isBoxName_72 (by decide) ?_
      have hr := Option.some.inj h
      subst hr
      exact uu_zret (x := bI false) rfl (bI_z _) dX4_isBoxName_73
    · replace h := uu_neg c6 h
      refine uu_aload_n dX4_isBoxName_58 rfl (List.mem_of_getElem? (i := 0) rfl) ?_
      refine uu_iload_n dX4_isBoxName_59 rfl (List.mem_of_getElem? (i := 1) rfl) ?_
      obtain ⟨v7, e8, h⟩ := uu_ob h
      refine uu_cv (d1 := 0) (k := k0) (ci := 9) (T := TX9) (N := 6) (As := [.int x1]) (st := []) (st' := [.int v7]) (xc_X9_lengthOf uk hk0 e8) hk0.is (by decide) rfl kX9_lengthOf lX4_245 sX9_lengthOf (by decide) (Nat.le_of_ble_eq_true rfl) dX4_isBoxName_60 rfl ?_
      refine uu_bipush (v := 20) dX4_isBoxName_63 (by decide) ?_
      refine uu_icmp_gt (tgt := 72) dX4_isBoxName_65 (by decide) (fun c9 => ?_) (fun c9 => ?_)
      · replace h := uu_pos c9 h
        refine uu_iconst (v := 0) dX4_isBoxName_72 (by decide) ?_
        have hr := Option.some.inj h
        subst hr
        exact uu_zret (x := bI false) rfl (bI_z _) dX4_isBoxName_73
      · replace h := uu_neg c9 h
        refine uu_iconst (v := 1) dX4_isBoxName_68 (by decide) ?_
        refine uu_goto (tgt := 73) dX4_isBoxName_69 (by decide) ?_
        have hr := Option.some.inj h
        subst hr
        exact uu_zret (x := bI true) rfl (bI_z _) dX4_isBoxName_73
  · replace h := uu_neg c3 h
    refine uu_aload_n dX4_isBoxName_17 rfl (List.mem_of_getElem? (i := 0) rfl) ?_
    refine uu_getc (ci := 9) (N := 6) fX4_212 (by decide) hk0.is (by decide) (c := 1) (by decide) (k2 := k0 + 1) rfl dX4_isBoxName_18 ?_
    refine uu_iload_n dX4_isBoxName_21 rfl (List.mem_of_getElem? (i := 2) rfl) ?_
    obtain ⟨v10, e11, h⟩ := uu_ob h
    refine uu_bald e11 dX4_isBoxName_22 ?_
    refine uu_istore_n dX4_isBoxName_23 rfl (by decide) rfl ?_
    refine uu_iload_n dX4_isBoxName_24 rfl (List.mem_of_getElem? (i := 0) rfl) ?_
    refine uu_bipush (v := 32) dX4_isBoxName_25 (by decide) ?_
    refine uu_icmp_lt (tgt := 42) dX4_isBoxName_27 (by decide) (fun c12 => ?_) (fun c12 => ?_)
    · replace h := uu_pos c12 h
      refine uu_iconst (v := 0) dX4_isBoxName_42 (by decide) ?_
      have hr := Option.some.inj h
      subst hr
      exact uu_zret (x := bI false) rfl (bI_z _) dX4_isBoxName_43
    · replace h := uu_neg c12 h
      refine uu_iload_n dX4_isBoxName_30 rfl (List.mem_of_getElem? (i := 0) rfl) ?_
      refine uu_bipush (v := 126) dX4_isBoxName_31 (by decide) ?_
      refine uu_icmp_gt (tgt := 42) dX4_isBoxName_33 (by decide) (fun c13 => ?_) (fun c13 => ?_)
      · replace h := uu_pos c13 h
        refine uu_iconst (v := 0) dX4_isBoxName_42 (by decide) ?_
        have hr := Option.some.inj h
        subst hr
        exact uu_zret (x := bI false) rfl (bI_z _) dX4_isBoxName_43
      · replace h := uu_neg c13 h
        refine uu_iload_n dX4_isBoxName_36 rfl (List.mem_of_getElem? (i := 0) rfl) ?_
        refine uu_bipush (v := 34) dX4_isBoxName_37 (by decide) ?_
        refine uu_icmp_ne (tgt := 44) dX4_isBoxName_39 (by decide) (fun c14 => ?_) (fun c14 => ?_)
        · replace h := uu_neg c14 h
          refine uu_iinc (v := x2 + 1) dX4_isBoxName_44 (k := 3) rfl rfl (by decide) rfl ?_
          refine uu_goto (tgt := 7) dX4_isBoxName_47 (by decide) ?_
          refine uu_lv [2, 3, 0] (lv' := [(0, .ref (B + k0)), (1, .int x1), (2, .int (x2 + 1))]) rfl ?_
          exact hK7 k0 x1 (x2 + 1) hk0 _ _ h
        · replace h := uu_pos c14 h
          refine uu_iconst (v := 0) dX4_isBoxName_42 (by decide) ?_
          have hr := Option.some.inj h
          subst hr
          exact uu_zret (x := bI false) rfl (bI_z _) dX4_isBoxName_43
def fn_X4_isBoxName_7  : Nat → Nat → Int32 → Int32 → uS → Option Bool
  | 0 => fun _ _ _ _ => none
  | n + 1 => fb_X4_isBoxName_7 (fn_X4_isBoxName_7  n)
set_option maxRecDepth 100000 in
set_option maxHeartbeats 4000000 in
theorem xn_X4_isBoxName_7 {l : Launch} {D : va_G} {A : Nat → ClassId} {B : Nat} {Z : State → Heap → Prop} {vF : Value} (uk : uK B Z vF)   : ∀ (n : Nat) (k0 : Nat) (x1 : Int32) (x2 : Int32) (hk0 : uSo k0 9) (s : uS) (r : Bool), fn_X4_isBoxName_7  n k0 x1 x2 s = some r → GU l D A B Z mX4_isBoxName 1 (s, some (.int (bI r))) s 7 [(0, .ref (B + k0)), (1, .int x1), (2, .int x2)] [] := by
  intro n
  induction n with
  | zero => intro k0 x1 x2 hk0 s r h
            cases h
  | succ n ih => intro k0 x1 x2 hk0 s r h
                 exact xb_X4_isBoxName_7 uk ih hk0 h
def fn_X4_isBoxName (k0 : Nat) (x1 : Int32) (s : uS) : Option Bool := (iget 20 s (k0 + 2) x1).bind fun v1 => fn_X4_isBoxName_7 uFu k0 x1 v1 s
set_option maxRecDepth 100000 in
set_option maxHeartbeats 4000000 in
theorem xc_X4_isBoxName {l : Launch} {D : va_G} {A : Nat → ClassId} {B : Nat} {Z : State → Heap → Prop} {vF : Value} (uk : uK B Z vF) {k0 : Nat} {x1 : Int32} {s : uS} {r : Bool} (hk0 : uSo k0 9) (h : fn_X4_isBoxName k0 x1 s = some r) : CU l D A B Z 1 mX4_isBoxName s [.ref (B + k0), .int x1] (s, some (.int (bI r))) := by
  unfold fn_X4_isBoxName at h
  refine cu_of rfl uk.1.1 (Nat.le_of_ble_eq_true rfl) ?_
  show GU _ _ _ _ _ _ _ _ _ 0 [(0, .ref (B + k0)), (1, .int x1)] []
  refine uu_aload_n dX4_isBoxName_0 rfl (List.mem_of_getElem? (i := 0) rfl) ?_
  refine uu_getc (ci := 9) (N := 6) fX4_204 (by decide) hk0.is (by decide) (c := 2) (by decide) (k2 := k0 + 2) rfl dX4_isBoxName_1 ?_
  refine uu_iload_n dX4_isBoxName_4 rfl (List.mem_of_getElem? (i := 1) rfl) ?_
  obtain ⟨v1, e2, h⟩ := uu_ob h
  refine uu_iald e2 dX4_isBoxName_5 ?_
  refine uu_istore_n dX4_isBoxName_6 rfl (by decide) rfl ?_
  refine uu_lv [1, 2, 0] (lv' := [(0, .ref (B + k0)), (1, .int x1), (2, .int v1)]) rfl ?_
  exact xn_X4_isBoxName_7 uk  _ _ _ _ hk0 _ _ h
