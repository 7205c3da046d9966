abbrev mX0_areOptions : hM := (yX0_areOptions, cX0_areOptions, 7, (some (.boolean)))
theorem dX0_areOptions_62 : decode cX0_areOptions 62 = .ok (.istore 6, 2) := by decide +kernel
theorem dX0_areOptions_64 : decode cX0_areOptions 64 = .ok (.aload_n 0, 1) := by decide +kernel
theorem dX0_areOptions_65 : decode cX0_areOptions 65 = .ok (.getfield 25, 3) := by decide +kernel
theorem dX0_areOptions_68 : decode cX0_areOptions 68 = .ok (.iload_n 3, 1) := by decide +kernel
theorem dX0_areOptions_69 : decode cX0_areOptions 69 = .ok (.baload, 1) := by decide +kernel
theorem dX0_areOptions_70 : decode cX0_areOptions 70 = .ok (.bipush 32, 2) := by decide +kernel
theorem dX0_areOptions_72 : decode cX0_areOptions 72 = .ok (.if_icmp .ne 20, 3) := by decide +kernel
theorem dX0_areOptions_92 : decode cX0_areOptions 92 = .ok (.iconst 0, 1) := by decide +kernel
theorem dX0_areOptions_93 : decode cX0_areOptions 93 = .ok (.ireturn, 1) := by decide +kernel
theorem dX0_areOptions_75 : decode cX0_areOptions 75 = .ok (.iload 6, 2) := by decide +kernel
theorem dX0_areOptions_77 : decode cX0_areOptions 77 = .ok (.ifCond .ne 17, 3) := by decide +kernel
theorem dX0_areOptions_94 : decode cX0_areOptions 94 = .ok (.iload 5, 2) := by decide +kernel
theorem dX0_areOptions_96 : decode cX0_areOptions 96 = .ok (.istore_n 3, 1) := by decide +kernel
theorem dX0_areOptions_97 : decode cX0_areOptions 97 = .ok (.goto (-90), 3) := by decide +kernel
theorem dX0_areOptions_80 : decode cX0_areOptions 80 = .ok (.aload_n 0, 1) := by decide +kernel
theorem dX0_areOptions_81 : decode cX0_areOptions 81 = .ok (.iload_n 3, 1) := by decide +kernel
theorem dX0_areOptions_82 : decode cX0_areOptions 82 = .ok (.iconst 1, 1) := by decide +kernel
theorem dX0_areOptions_83 : decode cX0_areOptions 83 = .ok (.iadd, 1) := by decide +kernel
theorem dX0_areOptions_84 : decode cX0_areOptions 84 = .ok (.iload 5, 2) := by decide +kernel
theorem kX0_isSize : h_ml mX0_isSize 2 := ⟨h_t4 73 rfl rfl, h_t1 13 rfl rfl, ⟨by decide, by decide, by decide +kernel⟩, by decide⟩
theorem lX0_209 : Cond.methodLink RX0 209 mX0_isSize.1 ∈ lw_g := h_t4 70 rfl rfl
theorem sX0_isSize : Cond.instanceMethod mX0_isSize.1 ∈ lw_g ∧ Cond.selects mX0_isSize.1.cls mX0_isSize.1 mX0_isSize.1 ∈ lw_g := ⟨h_t4 72 rfl rfl, h_ins 9 rfl⟩
theorem dX0_areOptions_86 : decode cX0_areOptions 86 = .ok (.invokevirtual 209, 3) := by decide +kernel
theorem dX0_areOptions_89 : decode cX0_areOptions 89 = .ok (.ifCond .ne 5, 3) := by decide +kernel
theorem dX0_areOptions_38 : decode cX0_areOptions 38 = .ok (.istore 5, 2) := by decide +kernel
theorem dX0_areOptions_40 : decode cX0_areOptions 40 = .ok (.ldc 207, 2) := by decide +kernel
theorem dX0_areOptions_42 : decode cX0_areOptions 42 = .ok (.aload_n 0, 1) := by decide +kernel
theorem dX0_areOptions_43 : decode cX0_areOptions 43 = .ok (.getfield 25, 3) := by decide +kernel
theorem dX0_areOptions_46 : decode cX0_areOptions 46 = .ok (.iload_n 3, 1) := by decide +kernel
theorem dX0_areOptions_47 : decode cX0_areOptions 47 = .ok (.iconst 1, 1) := by decide +kernel
theorem dX0_areOptions_48 : decode cX0_areOptions 48 = .ok (.iadd, 1) := by decide +kernel
theorem dX0_areOptions_49 : decode cX0_areOptions 49 = .ok (.iload 5, 2) := by decide +kernel
theorem dX0_areOptions_51 : decode cX0_areOptions 51 = .ok (.invokestatic 119, 3) := by decide +kernel
theorem dX0_areOptions_54 : decode cX0_areOptions 54 = .ok (.ifCond .ne 7, 3) := by decide +kernel
theorem dX0_areOptions_61 : decode cX0_areOptions 61 = .ok (.iconst 0, 1) := by decide +kernel
theorem dX0_areOptions_57 : decode cX0_areOptions 57 = .ok (.iconst 1, 1) := by decide +kernel
theorem dX0_areOptions_58 : decode cX0_areOptions 58 = .ok (.goto 4, 3) := by decide +kernel
theorem dX0_areOptions_7 : decode cX0_areOptions 7 = .ok (.iload_n 3, 1) := by decide +kernel
theorem dX0_areOptions_8 : decode cX0_areOptions 8 = .ok (.iload_n 2, 1) := by decide +kernel
theorem dX0_areOptions_9 : decode cX0_areOptions 9 = .ok (.if_icmp .ge 91, 3) := by decide +kernel
theorem dX0_areOptions_100 : decode cX0_areOptions 100 = .ok (.iconst 1, 1) := by decide +kernel
theorem dX0_areOptions_101 : decode cX0_areOptions 101 = .ok (.ireturn, 1) := by decide +kernel
theorem dX0_areOptions_12 : decode cX0_areOptions 12 = .ok (.aload_n 0, 1) := by decide +kernel
theorem dX0_areOptions_13 : decode cX0_areOptions 13 = .ok (.getfield 25, 3) := by decide +kernel
theorem dX0_areOptions_16 : decode cX0_areOptions 16 = .ok (.iload_n 3, 1) := by decide +kernel
theorem dX0_areOptions_17 : decode cX0_areOptions 17 = .ok (.iconst 1, 1) := by decide +kernel
theorem dX0_areOptions_18 : decode cX0_areOptions 18 = .ok (.iadd, 1) := by decide +kernel
theorem dX0_areOptions_19 : decode cX0_areOptions 19 = .ok (.iload_n 2, 1) := by decide +kernel
theorem dX0_areOptions_20 : decode cX0_areOptions 20 = .ok (.bipush 32, 2) := by decide +kernel
theorem kX9_find : h_ml mX9_find 4 := ⟨h_t3 200 rfl rfl, h_t1 4 rfl rfl, ⟨by decide, by decide, by decide +kernel⟩, by decide⟩
theorem lX0_113 : Cond.methodLink RX0 113 mX9_find.1 ∈ lw_g := h_t3 198 rfl rfl
theorem sX9_find : Cond.static mX9_find.1 ∈ lw_g := h_t3 199 rfl rfl
theorem dX0_areOptions_22 : decode cX0_areOptions 22 = .ok (.invokestatic 113, 3) := by decide +kernel
theorem dX0_areOptions_25 : decode cX0_areOptions 25 = .ok (.istore 4, 2) := by decide +kernel
theorem dX0_areOptions_27 : decode cX0_areOptions 27 = .ok (.iload 4, 2) := by decide +kernel
theorem dX0_areOptions_29 : decode cX0_areOptions 29 = .ok (.ifCond .ge 7, 3) := by decide +kernel
theorem dX0_areOptions_36 : decode cX0_areOptions 36 = .ok (.iload 4, 2) := by decide +kernel
theorem dX0_areOptions_32 : decode cX0_areOptions 32 = .ok (.iload_n 2, 1) := by decide +kernel
theorem dX0_areOptions_33 : decode cX0_areOptions 33 = .ok (.goto 5, 3) := by decide +kernel
theorem dX0_areOptions_0 : decode cX0_areOptions 0 = .ok (.aload_n 0, 1) := by decide +kernel
theorem dX0_areOptions_1 : decode cX0_areOptions 1 = .ok (.iconst 0, 1) := by decide +kernel
theorem dX0_areOptions_2 : decode cX0_areOptions 2 = .ok (.putfield 170, 3) := by decide +kernel
theorem dX0_areOptions_5 : decode cX0_areOptions 5 = .ok (.iload_n 1, 1) := by decide +kernel
theorem dX0_areOptions_6 : decode cX0_areOptions 6 = .ok (.istore_n 3, 1) := by decide +kernel
def fb_X0_areOptions_62 (K7 : Int32 → Int32 → uS → Option (uS × Bool)) (x2 : Int32) (x3 : Int32) (x5 : Int32) (bs0 : Bool) (s : uS) : Option (uS × Bool) := (iget 21 s 1052 x3).bind fun v1 => if v1 = 32 then (if bs0 = true then (K7 x2 x5 s) else ((fn_X0_isSize (x3 + 1) x5 s).bind fun r5 => if r5.2 = true then (K7 x2 x5 r5.1) else (some (r5.1, false)))) else (some (s, false))
set_option maxRecDepth 100000 in
set_option maxHeartbeats 4000000 in
theorem xb_X0_areOptions_62 {l : Launch} {D : va_G} {A : Nat → ClassId} {B : Nat} {Z : State → Heap → Prop} {vF : Value} (uk : uK B Z vF) {K7 : Int32 → Int32 → uS → Option (uS × Bool)} (hK7 : ∀ (x2 : Int32) (x3 : Int32)  (s : uS) (r : (uS × Bool)), K7 x2 x3 s = some r → GU l D A B Z mX0_areOptions 6 (r.1, some (.int (bI r.2))) s 7 [(0, .ref (B + 1042)), (2, .int x2), (3, .int x3)] []) {x2 : Int32} {x3 : Int32} {x5 : Int32} {bs0 : Bool} {s : uS} {r : (uS × Bool)}  (h : fb_X0_areOptions_62 K7 x2 x3 x5 bs0 s = some r) : GU l D A B Z mX0_areOptions 6 (r.1, some (.int (bI r.2))) s 62 [(0, .ref (B + 1042)), (2, .int x2), (3, .int x3), (5, .int x5)] [.int (bI bs0)] := by
  unfold fb_X0_areOptions_62 at h
  refine uu_istore dX0_areOptions_62 (by decide) rfl ?_
  refine uu_aload_n dX0_areOptions_64 rfl (List.mem_of_getElem? (i := 1) rfl) ?_
  refine uu_geta (ci := 0) (N := 12) fX0_25 (by decide) so_1042.is (by decide) (c := 1052) (by decide) dX0_areOptions_65 ?_
  refine uu_iload_n dX0_areOptions_68 rfl (List.mem_of_getElem? (i := 3) rfl) ?_
  obtain ⟨v1, e2, h⟩ := uu_ob h
  refine uu_bald e2 dX0_areOptions_69 ?_
  refine uu_bipush (v := 32) dX0_areOptions_70 (by decide) ?_
  refine uu_icmp_ne (tgt := 92) dX0_areOptions_72 (by decide) (fun c3 => ?_) (fun c3 => ?_)
  · replace h := uu_neg c3 h
    refine uu_iconst (v := 0) dX0_areOptions_92 (by decide) ?_
    have hr := Option.some.inj h
    subst hr
    exact uu_zret (x := bI false) rfl (bI_z _) dX0_areOptions_93
  · replace h := uu_pos c3 h
    refine uu_iload dX0_areOptions_75 (List.mem_of_getElem? (i := 0) rfl) ?_
    refine uu_ifb_ne (tgt := 94) dX0_areOptions_77 (by decide) (fun c4 => ?_) (fun c4 => ?_)
    · replace h := uu_pos c4 h
      refine uu_iload dX0_areOptions_94 (List.mem_of_getElem? (i := 4) rfl) ?_
      refine uu_istore_n dX0_areOptions_96 rfl (by decide) rfl ?_
      refine uu_goto (tgt := 7) dX0_areOptions_97 (by decide) ?_
      refine uu_lv [2, 3, 0] (lv' := [(0, .ref (B + 1042)), (2, .int x2), (3, .int x5)]) rfl ?_
      exact hK7 x2 x5 _ _ h
    · replace h := uu_neg c4 h
      refine uu_aload_n dX0_areOptions_80 rfl (List.mem_of_getElem? (i := 1) rfl) ?_
      refine uu_iload_n dX0_areOptions_81 rfl (List.mem_of_getElem? (i := 3) rfl) ?_
      refine uu_iconst (v := 1) dX0_areOptions_82 (by decide) ?_
      refine uu_iadd dX0_areOptions_83 ?_
      refine uu_iload dX0_areOptions_84 (List.mem_of_getElem? (i := 4) rfl) ?_
      obtain ⟨r5, e6, h⟩ := uu_ob h
      refine uu_cv (d1 := 5) (k := 1042) (ci := 0) (T := TX0) (N := 12) (As := [.int (x3 + 1), .int x5]) (st := []) (st' := [.int (bI r5.2)]) (xc_X0_isSize uk  e6) so_1042.is (by decide) rfl kX0_isSize lX0_209 sX0_isSize (by decide) (Nat.le_of_ble_eq_true rfl) dX0_areOptions_86 rfl ?_
      refine uu_ifb_ne (tgt := 94) dX0_areOptions_89 (by decide) (fun c7 => ?_) (fun c7 => ?_)
      · replace h := uu_pos c7 h
        refine uu_iload dX0_areOptions_94 (List.mem_of_getElem? (i := 4) rfl) ?_
        refine uu_istore_n dX0_areOptions_96 rfl (by decide) rfl ?_
        refine uu_goto (tgt := 7) dX0_areOptions_97 (by decide) ?_
        refine uu_lv [2, 3, 0] (lv' := [(0, .ref (B + 1042)), (2, .int x2), (3, .int x5)]) rfl ?_
        exact hK7 x2 x5 _ _ h
      · replace h := uu_neg c7 h
        refine uu_iconst (v := 0) dX0_areOptions_92 (by decide) ?_
        have hr := Option.some.inj h
        subst hr
        exact uu_zret (x := bI false) rfl (bI_z _) dX0_areOptions_93
def fb_X0_areOptions_38 (K7 : Int32 → Int32 → uS → Option (uS × Bool)) (x2 : Int32) (x3 : Int32) (xs0 : Int32) (s : uS) : Option (uS × Bool) := (fn_X9_place kW_32 1052 (x3 + 1) xs0 s).bind fun v2 => if v2 = 0 then (fb_X0_areOptions_62 K7 x2 x3 xs0 true s) else (fb_X0_areOptions_62 K7 x2 x3 xs0 false s)
set_option maxRecDepth 100000 in
set_option maxHeartbeats 4000000 in
theorem xb_X0_areOptions_38 {l : Launch} {D : va_G} {A : Nat → ClassId} {B : Nat} {Z : State → Heap → Prop} {vF : Value} (uk : uK B Z vF) {K7 : Int32 → Int32 → uS → Option (uS × Bool)} (hK7 : ∀ (x2 : Int32) (x3 : Int32)  (s : uS) (r : (uS × Bool)), K7 x2 x3 s = some r → GU l D A B Z mX0_areOptions 6 (r.1, some (.int (bI r.2))) s 7 [(0, .ref (B + 1042)), (2, .int x2), (3, .int x3)] []) {x2 : Int32} {x3 : Int32} {xs0 : Int32} {s : uS} {r : (uS × Bool)}  (h : fb_X0_areOptions_38 K7 x2 x3 xs0 s = some r) : GU l D A B Z mX0_areOptions 6 (r.1, some (.int (bI r.2))) s 38 [(0, .ref (B + 1042)), (2, .int x2), (3, .int x3)] [.int xs0] := by
  unfold fb_X0_areOptions_38 at h
  refine uu_istore dX0_areOptions_38 (by decide) rfl ?_
  obtain ⟨cq1, cp1, cv1, cw1⟩ := uk.2.1 32 _ rfl
  refine uu_ldcS cv1 dX0_areOptions_40 ?_
  refine uu_aload_n dX0_areOptions_42 rfl (List.mem_of_getElem? (i := 1) rfl) ?_
  refine uu_geta (ci := 0) (N := 12) fX0_25 (by decide) so_1042.is (by decide) (c := 1052) (by decide) dX0_areOptions_43 ?_
  refine uu_iload_n dX0_areOptions_46 rfl (List.mem_of_getElem? (i := 3) rfl) ?_
  refine uu_iconst (v := 1) dX0_areOptions_47 (by decide) ?_
  refine uu_iadd dX0_areOptions_48 ?_
  refine uu_iload dX0_areOptions_49 (List.mem_of_getElem? (i := 0) rfl) ?_
  obtain ⟨v2, e3, h⟩ := uu_ob h
  refine uu_cs (d1 := 4) (As := [.ref cq1, .ref (B + 1052), .int (x3 + 1), .int xs0]) (st := []) (st' := [.int v2]) (xc_X9_place uk cw1 e3) kX9_place lX0_119 sX9_place (by decide) (Nat.le_of_ble_eq_true rfl) dX0_areOptions_51 rfl ?_
  refine uu_if_ne (tgt := 61) dX0_areOptions_54 (by decide) (fun c4 => ?_) (fun c4 => ?_)
  · replace h := uu_neg c4 h
    refine uu_iconst (v := 0) dX0_areOptions_61 (by decide) ?_
    refine uu_lv [1, 2, 3, 0] (lv' := [(0, .ref (B + 1042)), (2, .int x2), (3, .int x3), (5, .int xs0)]) rfl ?_
    exact xb_X0_areOptions_62 uk hK7 h
  · replace h := uu_pos c4 h
    refine uu_iconst (v := 1) dX0_areOptions_57 (by decide) ?_
    refine uu_goto (tgt := 62) dX0_areOptions_58 (by decide) ?_
    refine uu_lv [1, 2, 3, 0] (lv' := [(0, .ref (B + 1042)), (2, .int x2), (3, .int x3), (5, .int xs0)]) rfl ?_
    exact xb_X0_areOptions_62 uk hK7 h
def fb_X0_areOptions_7 (K7 : Int32 → Int32 → uS → Option (uS × Bool)) (x2 : Int32) (x3 : Int32) (s : uS) : Option (uS × Bool) := if x2 ≤ x3 then (some (s, true)) else ((fn_X9_find 1052 (x3 + 1) x2 32 s).bind fun v2 => if 0 ≤ v2 then (fb_X0_areOptions_38 K7 x2 x3 v2 s) else (fb_X0_areOptions_38 K7 x2 x3 x2 s))
set_option maxRecDepth 100000 in
set_option maxHeartbeats 4000000 in
theorem xb_X0_areOptions_7 {l : Launch} {D : va_G} {A : Nat → ClassId} {B : Nat} {Z : State → Heap → Prop} {vF : Value} (uk : uK B Z vF) {K7 : Int32 → Int32 → uS → Option (uS × Bool)} (hK7 : ∀ (x2 : Int32) (x3 : Int32)  (s : uS) (r : (uS × Bool)), K7 x2 x3 s = some r → GU l D A B Z mX0_areOptions 6 (r.1, some (.int (bI r.2))) s 7 [(0, .ref (B + 1042)), (2, .int x2), (3, .int x3)] []) {x2 : Int32} {x3 : Int32} {s : uS} {r : (uS × Bool)}  (h : fb_X0_areOptions_7 K7 x2 x3 s = some r) : GU l D A B Z mX0_areOptions 6 (r.1, some (.int (bI r.2))) s 7 [(0, .ref (B + 1042)), (2, .int x2), (3, .int x3)] [] := by
  unfold fb_X0_areOptions_7 at h
  refine uu_iload_n dX0_areOptions_7 rfl (List.mem_of_getElem? (i := 2) rfl) ?_
  refine uu_iload_n dX0_areOptions_8 rfl (List.mem_of_getElem? (i := 1) rfl) ?_
  refine uu_icmp_ge (tgt := 100) dX0_areOptions_9 (by decide) (fun c1 => ?_) (fun c1 => ?_)
  · replace h := uu_pos c1 h
    refine uu_iconst (v := 1) dX0_areOptions_100 (by decide) ?_
    have hr := Option.some.inj h
    subst hr
    exact uu_zret (x := bI true) rfl (bI_z _) dX0_areOptions_101
  · replace h := uu_neg c1 h
    refine uu_aload_n dX0_areOptions_12 rfl (List.mem_of_getElem? (i := 0) rfl) ?_
    refine uu_geta (ci := 0) (N := 12) fX0_25 (by decide) so_1042.is (by decide) (c := 1052) (by decide) dX0_areOptions_13 ?_
    refine uu_iload_n dX0_areOptions_16 rfl (List.mem_of_getElem? (i := 2) rfl) ?_
    refine uu_iconst (v := 1) dX0_areOptions_17 (by decide) ?_
    refine uu_iadd dX0_areOptions_18 ?_
    refine uu_iload_n dX0_areOptions_19 rfl (List.mem_of_getElem? (i := 1) rfl) ?_
    refine uu_bipush (v := 32) dX0_areOptions_20 (by decide) ?_
    obtain ⟨v2, e3, h⟩ := uu_ob h
    refine uu_cs (d1 := 0) (As := [.ref (B + 1052), .int (x3 + 1), .int x2, .int 32]) (st := []) (st' := [.int v2]) (xc_X9_find uk  e3) kX9_find lX0_113 sX9_find (by decide) (Nat.le_of_ble_eq_true rfl) dX0_areOptions_22 rfl ?_
    refine uu_istore dX0_areOptions_25 (by decide) rfl ?_
    refine uu_iload dX0_areOptions_27 (List.mem_of_getElem? (i := 0) rfl) ?_
    refine uu_if_ge (tgt := 36) dX0_areOptions_29 (by decide) (fun c4 => ?_) (fun c4 => ?_)
    · replace h := uu_pos c4 h
      refine uu_iload dX0_areOptions_36 (List.mem_of_getElem? (i := 0) rfl) ?_
      refine uu_lv [1, 2, 3] (lv' := [(0, .ref (B + 1042)), (2, .int x2), (3, .int x3)]) rfl ?_
      exact xb_X0_areOptions_38 uk hK7 h
    · replace h := uu_neg c4 h
      refine uu_iload_n dX0_areOptions_32 rfl (List.mem_of_getElem? (i := 2) rfl) ?_
      refine uu_goto (tgt := 38) dX0_areOptions_33 (by decide) ?_
      refine uu_lv [1, 2, 3] (lv' := [(0, .ref (B + 1042)), (2, .int x2), (3, .int x3)]) rfl ?_
      exact xb_X0_areOptions_38 uk hK7 h
def fn_X0_areOptions_7  : Nat → Int32 → Int32 → uS → Option (uS × Bool)
  | 0 => fun _ _ _ => none
  | n + 1 => fb_X0_areOptions_7 (fn_X0_areOptions_7  n)
set_option maxRecDepth 100000 in
set_option maxHeartbeats 4000000 in
theorem xn_X0_areOptions_7 {l : Launch} {D : va_G} {A : Nat → ClassId} {B : Nat} {Z : State → Heap → Prop} {vF : Value} (uk : uK B Z vF)   : ∀ (n : Nat) (x2 : Int32) (x3 : Int32)  (s : uS) (r : (uS × Bool)), fn_X0_areOptions_7  n x2 x3 s = some r → GU l D A B Z mX0_areOptions 6 (r.1, some (.int (bI r.2))) s 7 [(0, .ref (B + 1042)), (2, .int x2), (3, .int x3)] [] := by
  intro n
  induction n with
  | zero => intro x2 x3 s r h
            cases h
  | succ n ih => intro x2 x3 s r h
                 exact xb_X0_areOptions_7 uk ih  h
def fn_X0_areOptions (x1 : Int32) (x2 : Int32) (s : uS) : Option (uS × Bool) := fn_X0_areOptions_7 uFu x2 x1 (wI s 1042 11 0)
set_option maxRecDepth 100000 in
set_option maxHeartbeats 4000000 in
theorem xc_X0_areOptions {l : Launch} {D : va_G} {A : Nat → ClassId} {B : Nat} {Z : State → Heap → Prop} {vF : Value} (uk : uK B Z vF) {x1 : Int32} {x2 : Int32} {s : uS} {r : (uS × Bool)}  (h : fn_X0_areOptions x1 x2 s = some r) : CU l D A B Z 6 mX0_areOptions s [.ref (B + 1042), .int x1, .int x2] (r.1, some (.int (bI r.2))) := by
  unfold fn_X0_areOptions at h
  refine cu_of rfl uk.1.1 (Nat.le_of_ble_eq_true rfl) ?_
  show GU _ _ _ _ _ _ _ _ _ 0 [(0, .ref (B + 1042)), (1, .int x1), (2, .int x2)] []
  refine uu_aload_n dX0_areOptions_0 rfl (List.mem_of_getElem? (i := 0) rfl) ?_
  refine uu_iconst (v := 0) dX0_areOptions_1 (by decide) ?_
  refine uu_puti (ft := .boolean) (ci := 0) (N := 12) fX0_170 ptX0 (Or.inl rfl) (by decide) so_1042.is (by decide) (by decide) (by decide +kernel) rfl rfl dX0_areOptions_2 ?_
  refine uu_iload_n dX0_areOptions_5 rfl (List.mem_of_getElem? (i := 1) rfl) ?_
  refine uu_istore_n dX0_areOptions_6 rfl (by decide) rfl ?_
  refine uu_lv [1, 3, 0] (lv' := [(0, .ref (B + 1042)), (2, .int x2), (3, .int x1)]) rfl ?_
  exact xn_X0_areOptions_7 uk  _ _ _ _ _ h
abbrev mX2_open : hM := (yX2_open, cX2_open, 4, none)
theorem dX2_open_0 : decode cX2_open 0 = .ok (.aload_n 0, 1) := by decide +kernel
theorem dX2_open_1 : decode cX2_open 1 = .ok (.aload_n 1, 1) := by decide +kernel
theorem dX2_open_2 : decode cX2_open 2 = .ok (.putfield 18, 3) := by decide +kernel
theorem dX2_open_5 : decode cX2_open 5 = .ok (.aload_n 0, 1) := by decide +kernel
theorem dX2_open_6 : decode cX2_open 6 = .ok (.iload_n 2, 1) := by decide +kernel
theorem fX2_22 : h_fl RX2 22 2 4 RX2 TX2 9 := ⟨rfl, by decide, inX2, h_t1 120 rfl rfl⟩
theorem dX2_open_7 : decode cX2_open 7 = .ok (.putfield 22, 3) := by decide +kernel
theorem dX2_open_10 : decode cX2_open 10 = .ok (.aload_n 0, 1) := by decide +kernel
theorem dX2_open_11 : decode cX2_open 11 = .ok (.iload_n 2, 1) := by decide +kernel
theorem fX2_26 : h_fl RX2 26 2 8 RX2 TX2 9 := ⟨rfl, by decide, inX2, h_t1 124 rfl rfl⟩
theorem dX2_open_12 : decode cX2_open 12 = .ok (.putfield 26, 3) := by decide +kernel
theorem dX2_open_15 : decode cX2_open 15 = .ok (.aload_n 0, 1) := by decide +kernel
theorem dX2_open_16 : decode cX2_open 16 = .ok (.iload_n 3, 1) := by decide +kernel
theorem fX2_29 : h_fl RX2 29 2 5 RX2 TX2 9 := ⟨rfl, by decide, inX2, h_t1 121 rfl rfl⟩
theorem dX2_open_17 : decode cX2_open 17 = .ok (.putfield 29, 3) := by decide +kernel
theorem dX2_open_20 : decode cX2_open 20 = .ok (.aload_n 0, 1) := by decide +kernel
theorem dX2_open_21 : decode cX2_open 21 = .ok (.getfield 14, 3) := by decide +kernel
theorem lX2_32 : Cond.methodLink RX2 32 mX9_clear.1 ∈ lw_g := h_t4 178 rfl rfl
theorem dX2_open_24 : decode cX2_open 24 = .ok (.invokevirtual 32, 3) := by decide +kernel
theorem dX2_open_27 : decode cX2_open 27 = .ok (.return_, 1) := by decide +kernel
def fn_X2_open (k1 : Nat) (x2 : Int32) (x3 : Int32) (s : uS) : Option uS := (fn_X9_clear 8 (wI (wI (wI (wR s 7 1 (some k1)) 7 4 x2) 7 8 x2) 7 5 x3)).bind fun s1 => some s1
set_option maxRecDepth 100000 in
set_option maxHeartbeats 4000000 in
theorem xc_X2_open {l : Launch} {D : va_G} {A : Nat → ClassId} {B : Nat} {Z : State → Heap → Prop} {vF : Value} (uk : uK B Z vF) {k1 : Nat} {x2 : Int32} {x3 : Int32} {s : uS} {r : uS}  (h : fn_X2_open k1 x2 x3 s = some r) : CU l D A B Z 1 mX2_open s [.ref (B + 7), .ref (B + k1), .int x2, .int x3] (r, none) := by
  unfold fn_X2_open at h
  refine cu_of rfl uk.1.1 (Nat.le_of_ble_eq_true rfl) ?_
  show GU _ _ _ _ _ _ _ _ _ 0 [(0, .ref (B + 7)), (1, .ref (B + k1)), (2, .int x2), (3, .int x3)] []
  refine uu_aload_n dX2_open_0 rfl (List.mem_of_getElem? (i := 0) rfl) ?_
  refine uu_aload_n dX2_open_1 rfl (List.mem_of_getElem? (i := 1) rfl) ?_
  refine uu_putr (x := (some k1)) (ft := (.array .byte)) (ci := 2) (N := 9) fX2_18 ptX2 (Or.inl rfl) (by decide) so_7.is (by decide) (by decide) (by decide +kernel) rfl rfl dX2_open_2 ?_
  refine uu_aload_n dX2_open_5 rfl (List.mem_of_getElem? (i := 0) rfl) ?_
  refine uu_iload_n dX2_open_6 rfl (List.mem_of_getElem? (i := 2) rfl) ?_
  refine uu_puti (ft := .int) (ci := 2) (N := 9) fX2_22 ptX2 (Or.inl rfl) (by decide) so_7.is (by decide) (by decide) (by decide +kernel) rfl rfl dX2_open_7 ?_
  refine uu_aload_n dX2_open_10 rfl (List.mem_of_getElem? (i := 0) rfl) ?_
  refine uu_iload_n dX2_open_11 rfl (List.mem_of_getElem? (i := 2) rfl) ?_
  refine uu_puti (ft := .int) (ci := 2) (N := 9) fX2_26 ptX2 (Or.inl rfl) (by decide) so_7.is (by decide) (by decide) (by decide +kernel) rfl rfl dX2_open_12 ?_
  refine uu_aload_n dX2_open_15 rfl (List.mem_of_getElem? (i := 0) rfl) ?_
  refine uu_iload_n dX2_open_16 rfl (List.mem_of_getElem? (i := 3) rfl) ?_
  refine uu_puti (ft := .int) (ci := 2) (N := 9) fX2_29 ptX2 (Or.inl rfl) (by decide) so_7.is (by decide) (by decide) (by decide +kernel) rfl rfl dX2_open_17 ?_
  refine uu_aload_n dX2_open_20 rfl (List.mem_of_getElem? (i := 0) rfl) ?_
  refine uu_geta (ci := 2) (N := 9) fX2_14 (by decide) so_7.is (by decide) (c := 8) (by decide) dX2_open_21 ?_
  obtain ⟨s1, e2, h⟩ := uu_ob h
  refine uu_cv (d1 := 0) (k := 8) (ci := 9) (T := TX9) (N := 6) (As := []) (st := []) (st' := []) (xc_X9_clear uk so_8 e2) so_8.is (by decide) rfl kX9_clear lX2_32 sX9_clear (by decide) (Nat.le_of_ble_eq_true rfl) dX2_open_24 rfl ?_
  have hr := Option.some.inj h
  subst hr
  exact uu_vret rfl dX2_open_27
abbrev mX2_placeIn : hM := (yX2_placeIn, cX2_placeIn, 2, (some (.int)))
theorem dX2_placeIn_0 : decode cX2_placeIn 0 = .ok (.aload_n 1, 1) := by decide +kernel
theorem dX2_placeIn_1 : decode cX2_placeIn 1 = .ok (.aload_n 0, 1) := by decide +kernel
theorem dX2_placeIn_2 : decode cX2_placeIn 2 = .ok (.getfield 18, 3) := by decide +kernel
theorem dX2_placeIn_5 : decode cX2_placeIn 5 = .ok (.aload_n 0, 1) := by decide +kernel
theorem fX2_35 : h_fl RX2 35 2 7 RX2 TX2 9 := ⟨rfl, by decide, inX2, h_t1 123 rfl rfl⟩
theorem dX2_placeIn_6 : decode cX2_placeIn 6 = .ok (.getfield 35, 3) := by decide +kernel
theorem dX2_placeIn_9 : decode cX2_placeIn 9 = .ok (.aload_n 0, 1) := by decide +kernel
theorem dX2_placeIn_10 : decode cX2_placeIn 10 = .ok (.getfield 26, 3) := by decide +kernel
theorem lX2_38 : Cond.methodLink RX2 38 mX9_place.1 ∈ lw_g := h_t4 228 rfl rfl
theorem dX2_placeIn_13 : decode cX2_placeIn 13 = .ok (.invokestatic 38, 3) := by decide +kernel
theorem dX2_placeIn_16 : decode cX2_placeIn 16 = .ok (.ireturn, 1) := by decide +kernel
def fn_X2_placeIn (w1 : List Nat) (s : uS) : Option Int32 := (s.R 7 1).bind fun j1 => (fn_X9_place w1 j1 (s.I 7 7) (s.I 7 8) s).bind fun v3 => some v3
set_option maxRecDepth 100000 in
set_option maxHeartbeats 4000000 in
theorem xc_X2_placeIn {l : Launch} {D : va_G} {A : Nat → ClassId} {B : Nat} {Z : State → Heap → Prop} {vF : Value} (uk : uK B Z vF) {w1 : List Nat} {s : uS} {r : Int32} {qw1 pw1 : Nat} (hw1 : uStr B Z qw1 pw1 w1) (h : fn_X2_placeIn w1 s = some r) : CU l D A B Z 5 mX2_placeIn s [.ref (B + 7), .ref qw1] (s, some (.int r)) := by
  unfold fn_X2_placeIn at h
  refine cu_of rfl uk.1.1 (Nat.le_of_ble_eq_true rfl) ?_
  show GU _ _ _ _ _ _ _ _ _ 0 [(0, .ref (B + 7)), (1, .ref qw1)] []
  refine uu_aload_n dX2_placeIn_0 rfl (List.mem_of_getElem? (i := 1) rfl) ?_
  refine uu_aload_n dX2_placeIn_1 rfl (List.mem_of_getElem? (i := 0) rfl) ?_
  obtain ⟨j1, e2, h⟩ := uu_ob h
  refine uu_getr (ci := 2) (N := 9) fX2_18 (by decide) so_7.is (by decide) (by decide) e2 dX2_placeIn_2 ?_
  refine uu_aload_n dX2_placeIn_5 rfl (List.mem_of_getElem? (i := 0) rfl) ?_
  refine uu_geti (ci := 2) (N := 9) fX2_35 (by decide) so_7.is (by decide) (by decide) dX2_placeIn_6 ?_
  refine uu_aload_n dX2_placeIn_9 rfl (List.mem_of_getElem? (i := 0) rfl) ?_
  refine uu_geti (ci := 2) (N := 9) fX2_26 (by decide) so_7.is (by decide) (by decide) dX2_placeIn_10 ?_
  obtain ⟨v3, e4, h⟩ := uu_ob h
  refine uu_cs (d1 := 4) (As := [.ref qw1, .ref (B + j1), .int (s.I 7 7), .int (s.I 7 8)]) (st := []) (st' := [.int v3]) (xc_X9_place uk hw1 e4) kX9_place lX2_38 sX9_place (by decide) (Nat.le_of_ble_eq_true rfl) dX2_placeIn_13 rfl ?_
  have hr := Option.some.inj h
  subst hr
  exact uu_iret rfl dX2_placeIn_16
abbrev mX2_isSign : hM := (yX2_isSign, cX2_isSign, 2, (some (.boolean)))
theorem dX2_isSign_0 : decode cX2_isSign 0 = .ok (.aload_n 0, 1) := by decide +kernel
theorem fX2_42 : h_fl RX2 42 2 2 RX2 TX2 9 := ⟨rfl, by decide, inX2, h_t1 117 rfl rfl⟩
theorem dX2_isSign_1 : decode cX2_isSign 1 = .ok (.getfield 42, 3) := by decide +kernel
theorem dX2_isSign_4 : decode cX2_isSign 4 = .ok (.iconst 4, 1) := by decide +kernel
theorem dX2_isSign_5 : decode cX2_isSign 5 = .ok (.if_icmp .ne 20, 3) := by decide +kernel
theorem dX2_isSign_25 : decode cX2_isSign 25 = .ok (.iconst 0, 1) := by decide +kernel
theorem dX2_isSign_26 : decode cX2_isSign 26 = .ok (.ireturn, 1) := by decide +kernel
theorem dX2_isSign_8 : decode cX2_isSign 8 = .ok (.aload_n 0, 1) := by decide +kernel
theorem dX2_isSign_9 : decode cX2_isSign 9 = .ok (.getfield 18, 3) := by decide +kernel
theorem dX2_isSign_12 : decode cX2_isSign 12 = .ok (.aload_n 0, 1) := by decide +kernel
theorem fX2_45 : h_fl RX2 45 2 6 RX2 TX2 9 := ⟨rfl, by decide, inX2, h_t1 122 rfl rfl⟩
theorem dX2_isSign_13 : decode cX2_isSign 13 = .ok (.getfield 45, 3) := by decide +kernel
theorem dX2_isSign_16 : decode cX2_isSign 16 = .ok (.baload, 1) := by decide +kernel
theorem dX2_isSign_17 : decode cX2_isSign 17 = .ok (.iload_n 1, 1) := by decide +kernel
theorem dX2_isSign_18 : decode cX2_isSign 18 = .ok (.if_icmp .ne 7, 3) := by decide +kernel
theorem dX2_isSign_21 : decode cX2_isSign 21 = .ok (.iconst 1, 1) := by decide +kernel
theorem dX2_isSign_22 : decode cX2_isSign 22 = .ok (.goto 4, 3) := by decide +kernel
def fn_X2_isSign (x1 : Int32) (s : uS) : Option Bool := if (s.I 7 2) = 4 then ((s.R 7 1).bind fun j2 => (iget 21 s j2 (s.I 7 6)).bind fun v4 => if v4 = x1 then (some true) else (some false)) else (some false)
set_option maxRecDepth 100000 in
set_option maxHeartbeats 4000000 in
theorem xc_X2_isSign {l : Launch} {D : va_G} {A : Nat → ClassId} {B : Nat} {Z : State → Heap → Prop} {vF : Value} (uk : uK B Z vF) {x1 : Int32} {s : uS} {r : Bool}  (h : fn_X2_isSign x1 s = some r) : CU l D A B Z 0 mX2_isSign s [.ref (B + 7), .int x1] (s, some (.int (bI r))) := by
  unfold fn_X2_isSign at h
  refine cu_of rfl uk.1.1 (Nat.le_of_ble_eq_true rfl) ?_
  show GU _ _ _ _ _ _ _ _ _ 0 [(0, .ref (B + 7)), (1, .int x1)] []
  refine uu_aload_n dX2_isSign_0 rfl (List.mem_of_getElem? (i := 0) rfl) ?_
  refine uu_geti (ci := 2) (N := 9) fX2_42 (by decide) so_7.is (by decide) (by decide) dX2_isSign_1 ?_
  refine uu_iconst (v := 4) dX2_isSign_4 (by decide) ?_
  refine uu_icmp_ne (tgt := 25) dX2_isSign_5 (by decide) (fun c1 => ?_) (fun c1 => ?_)
  · replace h := uu_neg c1 h
    refine uu_iconst (v := 0) dX2_isSign_25 (by decide) ?_
    have hr := Option.some.inj h
    subst hr
    exact uu_zret (x := bI false) rfl (bI_z _) dX2_isSign_26
  · replace h := uu_pos c1 h
    refine uu_aload_n dX2_isSign_8 rfl (List.mem_of_getElem? (i := 0) rfl) ?_
    obtain ⟨j2, e3, h⟩ := uu_ob h
    refine uu_getr (ci := 2) (N := 9) fX2_18 (by decide) so_7.is (by decide) (by decide) e3 dX2_isSign_9 ?_
    refine uu_aload_n dX2_isSign_12 rfl (List.mem_of_getElem? (i := 0) rfl) ?_
    refine uu_geti (ci := 2) (N := 9) fX2_45 (by decide) so_7.is (by decide) (by decide) dX2_isSign_13 ?_
    obtain ⟨v4, e5, h⟩ := uu_ob h
    refine uu_bald e5 dX2_isSign_16 ?_
    refine uu_iload_n dX2_isSign_17 rfl (List.mem_of_getElem? (i := 1) rfl) ?_
    refine uu_icmp_ne (tgt := 25) dX2_isSign_18 (by decide) (fun c6 => ?_) (fun c6 => ?_)
    · replace h := uu_neg c6 h
      refine uu_iconst (v := 0) dX2_isSign_25 (by decide) ?_
      have hr := Option.some.inj h
      subst hr
      exact uu_zret (x := bI false) rfl (bI_z _) dX2_isSign_26
    · replace h := uu_pos c6 h
      refine uu_iconst (v := 1) dX2_isSign_21 (by decide) ?_
      refine uu_goto (tgt := 26) dX2_isSign_22 (by decide) ?_
      have hr := Option.some.inj h
      subst hr
      exact uu_zret (x := bI true) rfl (bI_z _) dX2_isSign_26
abbrev mX2_line : hM := (yX2_line, cX2_line, 3, (some (.int)))
theorem dX2_line_7 : decode cX2_line 7 = .ok (.iload_n 2, 1) := by decide +kernel
theorem dX2_line_8 : decode cX2_line 8 = .ok (.aload_n 0, 1) := by decide +kernel
theorem dX2_line_9 : decode cX2_line 9 = .ok (.getfield 45, 3) := by decide +kernel
theorem dX2_line_12 : decode cX2_line 12 = .ok (.if_icmp .ge 23, 3) := by decide +kernel
theorem dX2_line_35 : decode cX2_line 35 = .ok (.iload_n 1, 1) := by decide +kernel
theorem dX2_line_36 : decode cX2_line 36 = .ok (.ireturn, 1) := by decide +kernel
theorem dX2_line_15 : decode cX2_line 15 = .ok (.aload_n 0, 1) := by decide +kernel
theorem dX2_line_16 : decode cX2_line 16 = .ok (.getfield 18, 3) := by decide +kernel
theorem dX2_line_19 : decode cX2_line 19 = .ok (.iload_n 2, 1) := by decide +kernel
theorem dX2_line_20 : decode cX2_line 20 = .ok (.baload, 1) := by decide +kernel
theorem dX2_line_21 : decode cX2_line 21 = .ok (.bipush 10, 2) := by decide +kernel
theorem dX2_line_23 : decode cX2_line 23 = .ok (.if_icmp .ne 6, 3) := by decide +kernel
theorem dX2_line_29 : decode cX2_line 29 = .ok (.iinc 2 1, 3) := by decide +kernel
theorem dX2_line_32 : decode cX2_line 32 = .ok (.goto (-25), 3) := by decide +kernel
theorem dX2_line_26 : decode cX2_line 26 = .ok (.iinc 1 1, 3) := by decide +kernel
theorem dX2_line_0 : decode cX2_line 0 = .ok (.iconst 1, 1) := by decide +kernel
theorem dX2_line_1 : decode cX2_line 1 = .ok (.istore_n 1, 1) := by decide +kernel
theorem dX2_line_2 : decode cX2_line 2 = .ok (.aload_n 0, 1) := by decide +kernel
theorem dX2_line_3 : decode cX2_line 3 = .ok (.getfield 22, 3) := by decide +kernel
theorem dX2_line_6 : decode cX2_line 6 = .ok (.istore_n 2, 1) := by decide +kernel
def fb_X2_line_7 (K7 : Int32 → Int32 → uS → Option Int32) (x1 : Int32) (x2 : Int32) (s : uS) : Option Int32 := if (s.I 7 6) ≤ x2 then (some x1) else ((s.R 7 1).bind fun j2 => (iget 21 s j2 x2).bind fun v4 => if v4 = 10 then (K7 (x1 + 1) (x2 + 1) s) else (K7 x1 (x2 + 1) s))
set_option maxRecDepth 100000 in
set_option maxHeartbeats 4000000 in
theorem xb_X2_line_7 {l : Launch} {D : va_G} {A : Nat → ClassId} {B : Nat} {Z : State → Heap → Prop} {vF : Value} (uk : uK B Z vF) {K7 : Int32 → Int32 → uS → Option Int32} (hK7 : ∀ (x1 : Int32) (x2 : Int32)  (s : uS) (r : Int32), K7 x1 x2 s = some r → GU l D A B Z mX2_line 0 (s, some (.int r)) s 7 [(0, .ref (B + 7)), (1, .int x1), (2, .int x2)] []) {x1 : Int32} {x2 : Int32} {s : uS} {r : Int32}  (h : fb_X2_line_7 K7 x1 x2 s = some r) : GU l D A B Z mX2_line 0 (s, some (.int r)) s 7 [(0, .ref (B + 7)), (1, .int x1), (2, .int x2)] [] := by
  unfold fb_X2_line_7 at h
  refine uu_iload_n dX2_line_7 rfl (List.mem_of_getElem? (i := 2) rfl) ?_
  refine uu_aload_n dX2_line_8 rfl (List.mem_of_getElem? (i := 0) rfl) ?_
  refine uu_geti (ci := 2) (N := 9) fX2_45 (by decide) so_7.is (by decide) (by decide) dX2_line_9 ?_
  refine uu_icmp_ge (tgt := 35) dX2_line_12 (by decide) (fun c1 => ?_) (fun c1 => ?_)
  · replace h := uu_pos c1 h
    refine uu_iload_n dX2_line_35 rfl (List.mem_of_getElem? (i := 1) rfl) ?_
    have hr := Option.some.inj h
    subst hr
    exact uu_iret rfl dX2_line_36
  · replace h := uu_neg c1 h
    refine uu_aload_n dX2_line_15 rfl (List.mem_of_getElem? (i := 0) rfl) ?_
    obtain ⟨j2, e3, h⟩ := uu_ob h
    refine uu_getr (ci := 2) (N := 9) fX2_18 (by decide) so_7.is (by decide) (by decide) e3 dX2_line_16 ?_
    refine uu_iload_n dX2_line_19 rfl (List.mem_of_getElem? (i := 2) rfl) ?_
    obtain ⟨v4, e5, h⟩ := uu_ob h
    refine uu_bald e5 dX2_line_20 ?_
    refine uu_bipush (v := 10) dX2_line_21 (by decide) ?_
    refine uu_icmp_ne (tgt := 29) dX2_line_23 (by decide) (fun c6 => ?_) (fun c6 => ?_)
    · replace h := uu_neg c6 h
      refine uu_iinc (v := x2 + 1) dX2_line_29 (k := 2) rfl rfl (by decide) rfl ?_
      refine uu_goto (tgt := 7) dX2_line_32 (by decide) ?_
      refine uu_lv [1, 2, 0] (lv' := [(0, .ref (B + 7)), (1, .int x1), (2, .int (x2 + 1))]) rfl ?_
      exact hK7 x1 (x2 + 1) _ _ h
    · replace h := uu_pos c6 h
      refine uu_iinc (v := x1 + 1) dX2_line_26 (k := 1) rfl rfl (by decide) rfl ?_
      refine uu_iinc (v := x2 + 1) dX2_line_29 (k := 2) rfl rfl (by decide) rfl ?_
      refine uu_goto (tgt := 7) dX2_line_32 (by decide) ?_
      refine uu_lv [2, 1, 0] (lv' := [(0, .ref (B + 7)), (1, .int (x1 + 1)), (2, .int (x2 + 1))]) rfl ?_
      exact hK7 (x1 + 1) (x2 + 1) _ _ h
def fn_X2_line_7  : Nat → Int32 → Int32 → uS → Option Int32
  | 0 => fun _ _ _ => none
  | n + 1 => fb_X2_line_7 (fn_X2_line_7  n)
set_option maxRecDepth 100000 in
set_option maxHeartbeats 4000000 in
theorem xn_X2_line_7 {l : Launch} {D : va_G} {A : Nat → ClassId} {B : Nat} {Z : State → Heap → Prop} {vF : Value} (uk : uK B Z vF)   : ∀ (n : Nat) (x1 : Int32) (x2 : Int32)  (s : uS) (r : Int32), fn_X2_line_7  n x1 x2 s = some r → GU l D A B Z mX2_line 0 (s, some (.int r)) s 7 [(0, .ref (B + 7)), (1, .int x1), (2, .int x2)] [] := by
  intro n
  induction n with
  | zero => intro x1 x2 s r h
            cases h
  | succ n ih => intro x1 x2 s r h
                 exact xb_X2_line_7 uk ih  h
def fn_X2_line  (s : uS) : Option Int32 := fn_X2_line_7 uFu 1 (s.I 7 4) s
set_option maxRecDepth 100000 in
set_option maxHeartbeats 4000000 in
theorem xc_X2_line {l : Launch} {D : va_G} {A : Nat → ClassId} {B : Nat} {Z : State → Heap → Prop} {vF : Value} (uk : uK B Z vF)  {s : uS} {r : Int32}  (h : fn_X2_line  s = some r) : CU l D A B Z 0 mX2_line s [.ref (B + 7)] (s, some (.int r)) := by
  unfold fn_X2_line at h
  refine cu_of rfl uk.1.1 (Nat.le_of_ble_eq_true rfl) ?_
  show GU _ _ _ _ _ _ _ _ _ 0 [(0, .ref (B + 7))] []
  refine uu_iconst (v := 1) dX2_line_0 (by decide) ?_
  refine uu_istore_n dX2_line_1 rfl (by decide) rfl ?_
  refine uu_aload_n dX2_line_2 rfl (List.mem_of_getElem? (i := 1) rfl) ?_
  refine uu_geti (ci := 2) (N := 9) fX2_22 (by decide) so_7.is (by decide) (by decide) dX2_line_3 ?_
  refine uu_istore_n dX2_line_6 rfl (by decide) rfl ?_
  refine uu_lv [2, 1, 0] (lv' := [(0, .ref (B + 7)), (1, .int 1), (2, .int (s.I 7 4))]) rfl ?_
  exact xn_X2_line_7 uk  _ _ _ _ _ h
abbrev mX2_byteAt : hM := (yX2_byteAt, cX2_byteAt, 2, (some (.int)))
theorem dX2_byteAt_0 : decode cX2_byteAt 0 = .ok (.iload_n 1, 1) := by decide +kernel
theorem dX2_byteAt_1 : decode cX2_byteAt 1 = .ok (.aload_n 0, 1) := by decide +kernel
theorem dX2_byteAt_2 : decode cX2_byteAt 2 = .ok (.getfield 29, 3) := by decide +kernel
theorem dX2_byteAt_5 : decode cX2_byteAt 5 = .ok (.if_icmp .ge 12, 3) := by decide +kernel
theorem dX2_byteAt_17 : decode cX2_byteAt 17 = .ok (.iconst (-1), 1) := by decide +kernel
theorem dX2_byteAt_18 : decode cX2_byteAt 18 = .ok (.ireturn, 1) := by decide +kernel
theorem dX2_byteAt_8 : decode cX2_byteAt 8 = .ok (.aload_n 0, 1) := by decide +kernel
theorem dX2_byteAt_9 : decode cX2_byteAt 9 = .ok (.getfield 18, 3) := by decide +kernel
theorem dX2_byteAt_12 : decode cX2_byteAt 12 = .ok (.iload_n 1, 1) := by decide +kernel
theorem dX2_byteAt_13 : decode cX2_byteAt 13 = .ok (.baload, 1) := by decide +kernel
theorem dX2_byteAt_14 : decode cX2_byteAt 14 = .ok (.goto 4, 3) := by decide +kernel
def fn_X2_byteAt (x1 : Int32) (s : uS) : Option Int32 := if (s.I 7 5) ≤ x1 then (some (-1 : Int32)) else ((s.R 7 1).bind fun j2 => (iget 21 s j2 x1).bind fun v4 => some v4)
set_option maxRecDepth 100000 in
set_option maxHeartbeats 4000000 in
theorem xc_X2_byteAt {l : Launch} {D : va_G} {A : Nat → ClassId} {B : Nat} {Z : State → Heap → Prop} {vF : Value} (uk : uK B Z vF) {x1 : Int32} {s : uS} {r : Int32}  (h : fn_X2_byteAt x1 s = some r) : CU l D A B Z 0 mX2_byteAt s [.ref (B + 7), .int x1] (s, some (.int r)) := by
  unfold fn_X2_byteAt at h
  refine cu_of rfl uk.1.1 (Nat.le_of_ble_eq_true rfl) ?_
  show GU _ _ _ _ _ _ _ _ _ 0 [(0, .ref (B + 7)), (1, .int x1)] []
  refine uu_iload_n dX2_byteAt_0 rfl (List.mem_of_getElem? (i := 1) rfl) ?_
  refine uu_aload_n dX2_byteAt_1 rfl (List.mem_of_getElem? (i := 0) rfl) ?_
  refine uu_geti (ci := 2) (N := 9) fX2_29 (by decide) so_7.is (by decide) (by decide) dX2_byteAt_2 ?_
  refine uu_icmp_ge (tgt := 17) dX2_byteAt_5 (by decide) (fun c1 => ?_) (fun c1 => ?_)
  · replace h := uu_pos c1 h
    refine uu_iconst (v := -1) dX2_byteAt_17 (by decide) ?_
    have hr := Option.some.inj h
    subst hr
    exact uu_iret rfl dX2_byteAt_18
  · replace h := uu_neg c1 h
    refine uu_aload_n dX2_byteAt_8 rfl (List.mem_of_getElem? (i := 0) rfl) ?_
    obtain ⟨j2, e3, h⟩ := uu_ob h
    refine uu_getr (ci := 2) (N := 9) fX2_18 (by decide) so_7.is (by decide) (by decide) e3 dX2_byteAt_9 ?_
    refine uu_iload_n dX2_byteAt_12 rfl (List.mem_of_getElem? (i := 1) rfl) ?_
    obtain ⟨v4, e5, h⟩ := uu_ob h
    refine uu_bald e5 dX2_byteAt_13 ?_
    refine uu_goto (tgt := 18) dX2_byteAt_14 (by decide) ?_
    have hr := Option.some.inj h
    subst hr
    exact uu_iret rfl dX2_byteAt_18
abbrev mX2_commentEnd : hM := (yX2_commentEnd, cX2_commentEnd, 3, (some (.int)))
theorem dX2_commentEnd_2 : decode cX2_commentEnd 2 = .ok (.iload_n 2, 1) := by decide +kernel
theorem dX2_commentEnd_3 : decode cX2_commentEnd 3 = .ok (.iconst 1, 1) := by decide +kernel
theorem dX2_commentEnd_4 : decode cX2_commentEnd 4 = .ok (.iadd, 1) := by decide +kernel
theorem dX2_commentEnd_5 : decode cX2_commentEnd 5 = .ok (.aload_n 0, 1) := by decide +kernel
theorem dX2_commentEnd_6 : decode cX2_commentEnd 6 = .ok (.getfield 29, 3) := by decide +kernel
theorem dX2_commentEnd_9 : decode cX2_commentEnd 9 = .ok (.if_icmp .ge 37, 3) := by decide +kernel
theorem dX2_commentEnd_46 : decode cX2_commentEnd 46 = .ok (.iconst (-1), 1) := by decide +kernel
theorem dX2_commentEnd_47 : decode cX2_commentEnd 47 = .ok (.ireturn, 1) := by decide +kernel
theorem dX2_commentEnd_12 : decode cX2_commentEnd 12 = .ok (.aload_n 0, 1) := by decide +kernel
theorem dX2_commentEnd_13 : decode cX2_commentEnd 13 = .ok (.getfield 18, 3) := by decide +kernel
theorem dX2_commentEnd_16 : decode cX2_commentEnd 16 = .ok (.iload_n 2, 1) := by decide +kernel
theorem dX2_commentEnd_17 : decode cX2_commentEnd 17 = .ok (.baload, 1) := by decide +kernel
theorem dX2_commentEnd_18 : decode cX2_commentEnd 18 = .ok (.bipush 42, 2) := by decide +kernel
theorem dX2_commentEnd_20 : decode cX2_commentEnd 20 = .ok (.if_icmp .ne 20, 3) := by decide +kernel
theorem dX2_commentEnd_40 : decode cX2_commentEnd 40 = .ok (.iinc 2 1, 3) := by decide +kernel
theorem dX2_commentEnd_43 : decode cX2_commentEnd 43 = .ok (.goto (-41), 3) := by decide +kernel
theorem dX2_commentEnd_23 : decode cX2_commentEnd 23 = .ok (.aload_n 0, 1) := by decide +kernel
theorem dX2_commentEnd_24 : decode cX2_commentEnd 24 = .ok (.getfield 18, 3) := by decide +kernel
theorem dX2_commentEnd_27 : decode cX2_commentEnd 27 = .ok (.iload_n 2, 1) := by decide +kernel
theorem dX2_commentEnd_28 : decode cX2_commentEnd 28 = .ok (.iconst 1, 1) := by decide +kernel
theorem dX2_commentEnd_29 : decode cX2_commentEnd 29 = .ok (.iadd, 1) := by decide +kernel
theorem dX2_commentEnd_30 : decode cX2_commentEnd 30 = .ok (.baload, 1) := by decide +kernel
theorem dX2_commentEnd_31 : decode cX2_commentEnd 31 = .ok (.bipush 47, 2) := by decide +kernel
theorem dX2_commentEnd_33 : decode cX2_commentEnd 33 = .ok (.if_icmp .ne 7, 3) := by decide +kernel
theorem dX2_commentEnd_36 : decode cX2_commentEnd 36 = .ok (.iload_n 2, 1) := by decide +kernel
theorem dX2_commentEnd_37 : decode cX2_commentEnd 37 = .ok (.iconst 2, 1) := by decide +kernel
theorem dX2_commentEnd_38 : decode cX2_commentEnd 38 = .ok (.iadd, 1) := by decide +kernel
theorem dX2_commentEnd_39 : decode cX2_commentEnd 39 = .ok (.ireturn, 1) := by decide +kernel
theorem dX2_commentEnd_0 : decode cX2_commentEnd 0 = .ok (.iload_n 1, 1) := by decide +kernel
theorem dX2_commentEnd_1 : decode cX2_commentEnd 1 = .ok (.istore_n 2, 1) := by decide +kernel
def fb_X2_commentEnd_2 (K2 : Int32 → uS → Option Int32) (x2 : Int32) (s : uS) : Option Int32 := if (s.I 7 5) ≤ (x2 + 1) then (some (-1 : Int32)) else ((s.R 7 1).bind fun j2 => (iget 21 s j2 x2).bind fun v4 => if v4 = 42 then ((s.R 7 1).bind fun j7 => (iget 21 s j7 (x2 + 1)).bind fun v9 => if v9 = 47 then (some (x2 + 2)) else (K2 (x2 + 1) s)) else (K2 (x2 + 1) s))
set_option maxRecDepth 100000 in
set_option maxHeartbeats 4000000 in
theorem xb_X2_commentEnd_2 {l : Launch} {D : va_G} {A : Nat → ClassId} {B : Nat} {Z : State → Heap → Prop} {vF : Value} (uk : uK B Z vF) {K2 : Int32 → uS → Option Int32} (hK2 : ∀ (x2 : Int32)  (s : uS) (r : Int32), K2 x2 s = some r → GU l D A B Z mX2_commentEnd 0 (s, some (.int r)) s 2 [(0, .ref (B + 7)), (2, .int x2)] []) {x2 : Int32} {s : uS} {r : Int32}  (h : fb_X2_commentEnd_2 K2 x2 s = some r) : GU l D A B Z mX2_commentEnd 0 (s, some (.int r)) s 2 [(0, .ref (B + 7)), (2, .int x2)] [] := by
  unfold fb_X2_commentEnd_2 at h
  refine uu_iload_n dX2_commentEnd_2 rfl (List.mem_of_getElem? (i := 1) rfl) ?_
  refine uu_iconst (v := 1) dX2_commentEnd_3 (by decide) ?_
  refine uu_iadd dX2_commentEnd_4 ?_
  refine uu_aload_n dX2_commentEnd_5 rfl (List.mem_of_getElem? (i := 0) rfl) ?_
  refine uu_geti (ci := 2) (N := 9) fX2_29 (by decide) so_7.is (by decide) (by decide) dX2_commentEnd_6 ?_
  refine uu_icmp_ge (tgt := 46) dX2_commentEnd_9 (by decide) (fun c1 => ?_) (fun c1 => ?_)
  · replace h := uu_pos c1 h
    refine uu_iconst (v := -1) dX2_commentEnd_46 (by decide) ?_
    have hr := Option.some.inj h
    subst hr
    exact uu_iret rfl dX2_commentEnd_47
  · replace h := uu_neg c1 h
    refine uu_aload_n dX2_commentEnd_12 rfl (List.mem_of_getElem? (i := 0) rfl) ?_
    obtain ⟨j2, e3, h⟩ := uu_ob h
    refine uu_getr (ci := 2) (N := 9) fX2_18 (by decide) so_7.is (by decide) (by decide) e3 dX2_commentEnd_13 ?_
    refine uu_iload_n dX2_commentEnd_16 rfl (List.mem_of_getElem? (i := 1) rfl) ?_
    obtain ⟨v4, e5, h⟩ := uu_ob h
    refine uu_bald e5 dX2_commentEnd_17 ?_
    refine uu_bipush (v := 42) dX2_commentEnd_18 (by decide) ?_
    refine uu_icmp_ne (tgt := 40) dX2_commentEnd_20 (by decide) (fun c6 => ?_) (fun c6 => ?_)
    · replace h := uu_neg c6 h
      refine uu_iinc (v := x2 + 1) dX2_commentEnd_40 (k := 1) rfl rfl (by decide) rfl ?_
      refine uu_goto (tgt := 2) dX2_commentEnd_43 (by decide) ?_
      refine uu_lv [1, 0] (lv' := [(0, .ref (B + 7)), (2, .int (x2 + 1))]) rfl ?_
      exact hK2 (x2 + 1) _ _ h
    · replace h := uu_pos c6 h
      refine uu_aload_n dX2_commentEnd_23 rfl (List.mem_of_getElem? (i := 0) rfl) ?_
      obtain ⟨j7, e8, h⟩ := uu_ob h
      refine uu_getr (ci := 2) (N := 9) fX2_18 (by decide) so_7.is (by decide) (by decide) e8 dX2_commentEnd_24 ?_
      refine uu_iload_n dX2_commentEnd_27 rfl (List.mem_of_getElem? (i := 1) rfl) ?_
      refine uu_iconst (v := 1) dX2_commentEnd_28 (by decide) ?_
      refine uu_iadd dX2_commentEnd_29 ?_
      obtain ⟨v9, e10, h⟩ := uu_ob h
      refine uu_bald e10 dX2_commentEnd_30 ?_
      refine uu_bipush (v := 47) dX2_commentEnd_31 (by decide) ?_
      refine uu_icmp_ne (tgt := 40) dX2_commentEnd_33 (by decide) (fun c11 => ?_) (fun c11 => ?_)
      · replace h := uu_neg c11 h
        refine uu_iinc (v := x2 + 1) dX2_commentEnd_40 (k := 1) rfl rfl (by decide) rfl ?_
        refine uu_goto (tgt := 2) dX2_commentEnd_43 (by decide) ?_
        refine uu_lv [1, 0] (lv' := [(0, .ref (B + 7)), (2, .int (x2 + 1))]) rfl ?_
        exact hK2 (x2 + 1) _ _ h
      · replace h := uu_pos c11 h
        refine uu_iload_n dX2_commentEnd_36 rfl (List.mem_of_getElem? (i := 1) rfl) ?_
        refine uu_iconst (v := 2) dX2_commentEnd_37 (by decide) ?_
        refine uu_iadd dX2_commentEnd_38 ?_
        have hr := Option.some.inj h
        subst hr
        exact uu_iret rfl dX2_commentEnd_39
def fn_X2_commentEnd_2  : Nat → Int32 → uS → Option Int32
  | 0 => fun _ _ => none
  | n + 1 => fb_X2_commentEnd_2 (fn_X2_commentEnd_2  n)
set_option maxRecDepth 100000 in
set_option maxHeartbeats 4000000 in
theorem xn_X2_commentEnd_2 {l : Launch} {D : va_G} {A : Nat → ClassId} {B : Nat} {Z : State → Heap → Prop} {vF : Value} (uk : uK B Z vF)   : ∀ (n : Nat) (x2 : Int32)  (s : uS) (r : Int32), fn_X2_commentEnd_2  n x2 s = some r → GU l D A B Z mX2_commentEnd 0 (s, some (.int r)) s 2 [(0, .ref (B + 7)), (2, .int x2)] [] := by
  intro n
  induction n with
  | zero => intro x2 s r h
            cases h
  | succ n ih => intro x2 s r h
                 exact xb_X2_commentEnd_2 uk ih  h
def fn_X2_commentEnd (x1 : Int32) (s : uS) : Option Int32 := fn_X2_commentEnd_2 uFu x1 s
set_option maxRecDepth 100000 in
set_option maxHeartbeats 4000000 in
theorem xc_X2_commentEnd {l : Launch} {D : va_G} {A : Nat → ClassId} {B : Nat} {Z : State → Heap → Prop} {vF : Value} (uk : uK B Z vF) {x1 : Int32} {s : uS} {r : Int32}  (h : fn_X2_commentEnd x1 s = some r) : CU l D A B Z 0 mX2_commentEnd s [.ref (B + 7), .int x1] (s, some (.int r)) := by
  unfold fn_X2_commentEnd at h
  refine cu_of rfl uk.1.1 (Nat.le_of_ble_eq_true rfl) ?_
  show GU _ _ _ _ _ _ _ _ _ 0 [(0, .ref (B + 7)), (1, .int x1)] []
  refine uu_iload_n dX2_commentEnd_0 rfl (List.mem_of_getElem? (i := 1) rfl) ?_
  refine uu_istore_n dX2_commentEnd_1 rfl (by decide) rfl ?_
  refine uu_lv [1, 0] (lv' := [(0, .ref (B + 7)), (2, .int x1)]) rfl ?_
  exact xn_X2_commentEnd_2 uk  _ _ _ _ h
abbrev mX2_skipBetween : hM := (yX2_skipBetween, cX2_skipBetween, 3, (some (.boolean)))
theorem dX2_skipBetween_45 : decode cX2_skipBetween 45 = .ok (.aload_n 0, 1) := by decide +kernel
theorem dX2_skipBetween_46 : decode cX2_skipBetween 46 = .ok (.dup, 1) := by decide +kernel
theorem dX2_skipBetween_47 : decode cX2_skipBetween 47 = .ok (.getfield 26, 3) := by decide +kernel
theorem dX2_skipBetween_50 : decode cX2_skipBetween 50 = .ok (.iconst 1, 1) := by decide +kernel
theorem dX2_skipBetween_51 : decode cX2_skipBetween 51 = .ok (.iadd, 1) := by decide +kernel
theorem dX2_skipBetween_52 : decode cX2_skipBetween 52 = .ok (.putfield 26, 3) := by decide +kernel
theorem dX2_skipBetween_55 : decode cX2_skipBetween 55 = .ok (.goto 100, 3) := by decide +kernel
theorem dX2_skipBetween_155 : decode cX2_skipBetween 155 = .ok (.goto (-155), 3) := by decide +kernel
theorem dX2_skipBetween_0 : decode cX2_skipBetween 0 = .ok (.aload_n 0, 1) := by decide +kernel
theorem dX2_skipBetween_1 : decode cX2_skipBetween 1 = .ok (.getfield 26, 3) := by decide +kernel
theorem dX2_skipBetween_4 : decode cX2_skipBetween 4 = .ok (.aload_n 0, 1) := by decide +kernel
theorem dX2_skipBetween_5 : decode cX2_skipBetween 5 = .ok (.getfield 29, 3) := by decide +kernel
theorem dX2_skipBetween_8 : decode cX2_skipBetween 8 = .ok (.if_icmp .ge 150, 3) := by decide +kernel
theorem dX2_skipBetween_158 : decode cX2_skipBetween 158 = .ok (.iconst 1, 1) := by decide +kernel
theorem dX2_skipBetween_159 : decode cX2_skipBetween 159 = .ok (.ireturn, 1) := by decide +kernel
theorem dX2_skipBetween_11 : decode cX2_skipBetween 11 = .ok (.aload_n 0, 1) := by decide +kernel
theorem dX2_skipBetween_12 : decode cX2_skipBetween 12 = .ok (.getfield 18, 3) := by decide +kernel
theorem dX2_skipBetween_15 : decode cX2_skipBetween 15 = .ok (.aload_n 0, 1) := by decide +kernel
theorem dX2_skipBetween_16 : decode cX2_skipBetween 16 = .ok (.getfield 26, 3) := by decide +kernel
theorem dX2_skipBetween_19 : decode cX2_skipBetween 19 = .ok (.baload, 1) := by decide +kernel
theorem dX2_skipBetween_20 : decode cX2_skipBetween 20 = .ok (.istore_n 1, 1) := by decide +kernel
theorem dX2_skipBetween_21 : decode cX2_skipBetween 21 = .ok (.iload_n 1, 1) := by decide +kernel
theorem dX2_skipBetween_22 : decode cX2_skipBetween 22 = .ok (.bipush 9, 2) := by decide +kernel
theorem dX2_skipBetween_24 : decode cX2_skipBetween 24 = .ok (.if_icmp .eq 21, 3) := by decide +kernel
theorem dX2_skipBetween_27 : decode cX2_skipBetween 27 = .ok (.iload_n 1, 1) := by decide +kernel
theorem dX2_skipBetween_28 : decode cX2_skipBetween 28 = .ok (.bipush 10, 2) := by decide +kernel
theorem dX2_skipBetween_30 : decode cX2_skipBetween 30 = .ok (.if_icmp .eq 15, 3) := by decide +kernel
theorem dX2_skipBetween_33 : decode cX2_skipBetween 33 = .ok (.iload_n 1, 1) := by decide +kernel
theorem dX2_skipBetween_34 : decode cX2_skipBetween 34 = .ok (.bipush 13, 2) := by decide +kernel
theorem dX2_skipBetween_36 : decode cX2_skipBetween 36 = .ok (.if_icmp .eq 9, 3) := by decide +kernel
theorem dX2_skipBetween_39 : decode cX2_skipBetween 39 = .ok (.iload_n 1, 1) := by decide +kernel
theorem dX2_skipBetween_40 : decode cX2_skipBetween 40 = .ok (.bipush 32, 2) := by decide +kernel
theorem dX2_skipBetween_42 : decode cX2_skipBetween 42 = .ok (.if_icmp .ne 16, 3) := by decide +kernel
theorem dX2_skipBetween_58 : decode cX2_skipBetween 58 = .ok (.iload_n 1, 1) := by decide +kernel
theorem dX2_skipBetween_59 : decode cX2_skipBetween 59 = .ok (.bipush 35, 2) := by decide +kernel
theorem dX2_skipBetween_61 : decode cX2_skipBetween 61 = .ok (.if_icmp .ne 40, 3) := by decide +kernel
theorem dX2_skipBetween_101 : decode cX2_skipBetween 101 = .ok (.iload_n 1, 1) := by decide +kernel
theorem dX2_skipBetween_102 : decode cX2_skipBetween 102 = .ok (.bipush 47, 2) := by decide +kernel
theorem dX2_skipBetween_104 : decode cX2_skipBetween 104 = .ok (.if_icmp .ne 49, 3) := by decide +kernel
theorem dX2_skipBetween_153 : decode cX2_skipBetween 153 = .ok (.iconst 1, 1) := by decide +kernel
theorem dX2_skipBetween_154 : decode cX2_skipBetween 154 = .ok (.ireturn, 1) := by decide +kernel
theorem dX2_skipBetween_107 : decode cX2_skipBetween 107 = .ok (.aload_n 0, 1) := by decide +kernel
theorem dX2_skipBetween_108 : decode cX2_skipBetween 108 = .ok (.aload_n 0, 1) := by decide +kernel
theorem dX2_skipBetween_109 : decode cX2_skipBetween 109 = .ok (.getfield 26, 3) := by decide +kernel
theorem dX2_skipBetween_112 : decode cX2_skipBetween 112 = .ok (.iconst 1, 1) := by decide +kernel
theorem dX2_skipBetween_113 : decode cX2_skipBetween 113 = .ok (.iadd, 1) := by decide +kernel
theorem kX2_byteAt : h_ml mX2_byteAt 1 := ⟨h_t4 206 rfl rfl, h_t1 3 rfl rfl, ⟨by decide, by decide, by decide +kernel⟩, by decide⟩
theorem lX2_88 : Cond.methodLink RX2 88 mX2_byteAt.1 ∈ lw_g := h_t4 203 rfl rfl
theorem sX2_byteAt : Cond.instanceMethod mX2_byteAt.1 ∈ lw_g ∧ Cond.selects mX2_byteAt.1.cls mX2_byteAt.1 mX2_byteAt.1 ∈ lw_g := ⟨h_t4 205 rfl rfl, h_ins 21 rfl⟩
theorem dX2_skipBetween_114 : decode cX2_skipBetween 114 = .ok (.invokevirtual 88, 3) := by decide +kernel
theorem dX2_skipBetween_117 : decode cX2_skipBetween 117 = .ok (.bipush 42, 2) := by decide +kernel
theorem dX2_skipBetween_119 : decode cX2_skipBetween 119 = .ok (.if_icmp .ne 34, 3) := by decide +kernel
theorem dX2_skipBetween_122 : decode cX2_skipBetween 122 = .ok (.aload_n 0, 1) := by decide +kernel
theorem dX2_skipBetween_123 : decode cX2_skipBetween 123 = .ok (.aload_n 0, 1) := by decide +kernel
theorem dX2_skipBetween_124 : decode cX2_skipBetween 124 = .ok (.getfield 26, 3) := by decide +kernel
theorem dX2_skipBetween_127 : decode cX2_skipBetween 127 = .ok (.putfield 45, 3) := by decide +kernel
theorem dX2_skipBetween_130 : decode cX2_skipBetween 130 = .ok (.aload_n 0, 1) := by decide +kernel
theorem dX2_skipBetween_131 : decode cX2_skipBetween 131 = .ok (.aload_n 0, 1) := by decide +kernel
theorem dX2_skipBetween_132 : decode cX2_skipBetween 132 = .ok (.aload_n 0, 1) := by decide +kernel
theorem dX2_skipBetween_133 : decode cX2_skipBetween 133 = .ok (.getfield 26, 3) := by decide +kernel
theorem dX2_skipBetween_136 : decode cX2_skipBetween 136 = .ok (.iconst 2, 1) := by decide +kernel
theorem dX2_skipBetween_137 : decode cX2_skipBetween 137 = .ok (.iadd, 1) := by decide +kernel
theorem kX2_commentEnd : h_ml mX2_commentEnd 1 := ⟨h_t4 210 rfl rfl, h_t1 3 rfl rfl, ⟨by decide, by decide, by decide +kernel⟩, by decide⟩
theorem lX2_91 : Cond.methodLink RX2 91 mX2_commentEnd.1 ∈ lw_g := h_t4 207 rfl rfl
theorem sX2_commentEnd : Cond.instanceMethod mX2_commentEnd.1 ∈ lw_g ∧ Cond.selects mX2_commentEnd.1.cls mX2_commentEnd.1 mX2_commentEnd.1 ∈ lw_g := ⟨h_t4 209 rfl rfl, h_ins 22 rfl⟩
theorem dX2_skipBetween_138 : decode cX2_skipBetween 138 = .ok (.invokevirtual 91, 3) := by decide +kernel
theorem dX2_skipBetween_141 : decode cX2_skipBetween 141 = .ok (.putfield 26, 3) := by decide +kernel
theorem dX2_skipBetween_144 : decode cX2_skipBetween 144 = .ok (.aload_n 0, 1) := by decide +kernel
theorem dX2_skipBetween_145 : decode cX2_skipBetween 145 = .ok (.getfield 26, 3) := by decide +kernel
theorem dX2_skipBetween_148 : decode cX2_skipBetween 148 = .ok (.ifCond .ge 7, 3) := by decide +kernel
theorem dX2_skipBetween_151 : decode cX2_skipBetween 151 = .ok (.iconst 0, 1) := by decide +kernel
theorem dX2_skipBetween_152 : decode cX2_skipBetween 152 = .ok (.ireturn, 1) := by decide +kernel
theorem dX2_skipBetween_64 : decode cX2_skipBetween 64 = .ok (.aload_n 0, 1) := by decide +kernel
theorem dX2_skipBetween_65 : decode cX2_skipBetween 65 = .ok (.getfield 18, 3) := by decide +kernel
theorem dX2_skipBetween_68 : decode cX2_skipBetween 68 = .ok (.aload_n 0, 1) := by decide +kernel
theorem dX2_skipBetween_69 : decode cX2_skipBetween 69 = .ok (.getfield 26, 3) := by decide +kernel
theorem dX2_skipBetween_72 : decode cX2_skipBetween 72 = .ok (.aload_n 0, 1) := by decide +kernel
theorem dX2_skipBetween_73 : decode cX2_skipBetween 73 = .ok (.getfield 29, 3) := by decide +kernel
theorem dX2_skipBetween_76 : decode cX2_skipBetween 76 = .ok (.bipush 10, 2) := by decide +kernel
theorem lX2_84 : Cond.methodLink RX2 84 mX9_find.1 ∈ lw_g := h_t4 202 rfl rfl
theorem dX2_skipBetween_78 : decode cX2_skipBetween 78 = .ok (.invokestatic 84, 3) := by decide +kernel
theorem dX2_skipBetween_81 : decode cX2_skipBetween 81 = .ok (.istore_n 2, 1) := by decide +kernel
theorem dX2_skipBetween_82 : decode cX2_skipBetween 82 = .ok (.aload_n 0, 1) := by decide +kernel
theorem dX2_skipBetween_83 : decode cX2_skipBetween 83 = .ok (.iload_n 2, 1) := by decide +kernel
theorem dX2_skipBetween_84 : decode cX2_skipBetween 84 = .ok (.ifCond .ge 10, 3) := by decide +kernel
theorem dX2_skipBetween_94 : decode cX2_skipBetween 94 = .ok (.iload_n 2, 1) := by decide +kernel
theorem dX2_skipBetween_95 : decode cX2_skipBetween 95 = .ok (.putfield 26, 3) := by decide +kernel
theorem dX2_skipBetween_98 : decode cX2_skipBetween 98 = .ok (.goto 57, 3) := by decide +kernel
theorem dX2_skipBetween_87 : decode cX2_skipBetween 87 = .ok (.aload_n 0, 1) := by decide +kernel
theorem dX2_skipBetween_88 : decode cX2_skipBetween 88 = .ok (.getfield 29, 3) := by decide +kernel
theorem dX2_skipBetween_91 : decode cX2_skipBetween 91 = .ok (.goto 4, 3) := by decide +kernel
def fb_X2_skipBetween_45 (K0 : uS → Option (uS × Bool))  (s : uS) : Option (uS × Bool) := K0 (wI s 7 8 ((s.I 7 8) + 1))
set_option maxRecDepth 100000 in
set_option maxHeartbeats 4000000 in
theorem xb_X2_skipBetween_45 {l : Launch} {D : va_G} {A : Nat → ClassId} {B : Nat} {Z : State → Heap → Prop} {vF : Value} (uk : uK B Z vF) {K0 : uS → Option (uS × Bool)} (hK0 : ∀   (s : uS) (r : (uS × Bool)), K0  s = some r → GU l D A B Z mX2_skipBetween 1 (r.1, some (.int (bI r.2))) s 0 [(0, .ref (B + 7))] [])  {s : uS} {r : (uS × Bool)}  (h : fb_X2_skipBetween_45 K0  s = some r) : GU l D A B Z mX2_skipBetween 1 (r.1, some (.int (bI r.2))) s 45 [(0, .ref (B + 7))] [] := by
  unfold fb_X2_skipBetween_45 at h
  refine uu_aload_n dX2_skipBetween_45 rfl (List.mem_of_getElem? (i := 0) rfl) ?_
  refine uu_dup dX2_skipBetween_46 rfl ?_
  refine uu_geti (ci := 2) (N := 9) fX2_26 (by decide) so_7.is (by decide) (by decide) dX2_skipBetween_47 ?_
  refine uu_iconst (v := 1) dX2_skipBetween_50 (by decide) ?_
  refine uu_iadd dX2_skipBetween_51 ?_
  refine uu_puti (ft := .int) (ci := 2) (N := 9) fX2_26 ptX2 (Or.inl rfl) (by decide) so_7.is (by decide) (by decide) (by decide +kernel) rfl rfl dX2_skipBetween_52 ?_
  refine uu_goto (tgt := 155) dX2_skipBetween_55 (by decide) ?_
  refine uu_goto (tgt := 0) dX2_skipBetween_155 (by decide) ?_
  exact hK0  _ _ h
def fb_X2_skipBetween_0 (K0 : uS → Option (uS × Bool))  (s : uS) : Option (uS × Bool) := if (s.I 7 5) ≤ (s.I 7 8) then (some (s, true)) else ((s.R 7 1).bind fun j2 => (iget 21 s j2 (s.I 7 8)).bind fun v4 => if v4 = 9 then (fb_X2_skipBetween_45 K0 s) else (if v4 = 10 then (fb_X2_skipBetween_45 K0 s) else (if v4 = 13 then (fb_X2_skipBetween_45 K0 s) else (if v4 = 32 then (fb_X2_skipBetween_45 K0 s) else (if v4 = 35 then ((s.R 7 1).bind fun j18 => (fn_X9_find j18 (s.I 7 8) (s.I 7 5) 10 s).bind fun v20 => if 0 ≤ v20 then (K0 (wI s 7 8 v20)) else (K0 (wI s 7 8 (s.I 7 5)))) else (if v4 = 47 then ((fn_X2_byteAt ((s.I 7 8) + 1) s).bind fun v12 => if v12 = 42 then ((fn_X2_commentEnd (((wI s 7 6 (s.I 7 8)).I 7 8) + 2) (wI s 7 6 (s.I 7 8))).bind fun v15 => if 0 ≤ ((wI (wI s 7 6 (s.I 7 8)) 7 8 v15).I 7 8) then (K0 (wI (wI s 7 6 (s.I 7 8)) 7 8 v15)) else (some (wI (wI s 7 6 (s.I 7 8)) 7 8 v15, false))) else (some (s, true))) else (some (s, true))))))))
set_option maxRecDepth 100000 in
set_option maxHeartbeats 4000000 in
theorem xb_X2_skipBetween_0 {l : Launch} {D : va_G} {A : Nat → ClassId} {B : Nat} {Z : State → Heap → Prop} {vF : Value} (uk : uK B Z vF) {K0 : uS → Option (uS × Bool)} (hK0 : ∀   (s : uS) (r : (uS × Bool)), K0  s = some r → GU l D A B Z mX2_skipBetween 1 (r.1, some (.int (bI r.2))) s 0 [(0, .ref (B + 7))] [])  {s : uS} {r : (uS × Bool)}  (h : fb_X2_skipBetween_0 K0  s = some r) : GU l D A B Z mX2_skipBetween 1 (r.1, some (.int (bI r.2))) s 0 [(0, .ref (B + 7))] [] := by
  unfold fb_X2_skipBetween_0 at h
  refine uu_aload_n dX2_skipBetween_0 rfl (List.mem_of_getElem? (i := 0) rfl) ?_
  refine uu_geti (ci := 2) (N := 9) fX2_26 (by decide) so_7.is (by decide) (by decide) dX2_skipBetween_1 ?_
  refine uu_aload_n dX2_skipBetween_4 rfl (List.mem_of_getElem? (i := 0) rfl) ?_
  refine uu_geti (ci := 2) (N := 9) fX2_29 (by decide) so_7.is (by decide) (by decide) dX2_skipBetween_5 ?_
  refine uu_icmp_ge (tgt := 158) dX2_skipBetween_8 (by decide) (fun c1 => ?_) (fun c1 => ?_)
  · replace h := uu_pos c1 h
    refine uu_iconst (v := 1) dX2_skipBetween_158 (by decide) ?_
    have hr := Option.some.inj h
    subst hr
    exact uu_zret (x := bI true) rfl (bI_z _) dX2_skipBetween_159
  · replace h := uu_neg c1 h
    refine uu_aload_n dX2_skipBetween_11 rfl (List.mem_of_getElem? (i := 0) rfl) ?_
    obtain ⟨j2, e3, h⟩ := uu_ob h
    refine uu_getr (ci := 2) (N := 9) fX2_18 (by decide) so_7.is (by decide) (by decide) e3 dX2_skipBetween_12 ?_
    refine uu_aload_n dX2_skipBetween_15 rfl (List.mem_of_getElem? (i := 0) rfl) ?_
    refine uu_geti (ci := 2) (N := 9) fX2_26 (by decide) so_7.is (by decide) (by decide) dX2_skipBetween_16 ?_
    obtain ⟨v4, e5, h⟩ := uu_ob h
    refine uu_bald e5 dX2_skipBetween_19 ?_
    refine uu_istore_n dX2_skipBetween_20 rfl (by decide) rfl ?_
    refine uu_iload_n dX2_skipBetween_21 rfl (List.mem_of_getElem? (i := 0) rfl) ?_
    refine uu_bipush (v := 9) dX2_skipBetween_22 (by decide) ?_
    refine uu_icmp_eq (tgt := 45) dX2_skipBetween_24 (by decide) (fun c6 => ?_) (fun c6 => ?_)
    · replace h := uu_pos c6 h
      refine uu_lv [1] (lv' := [(0, .ref (B + 7))]) rfl ?_
      exact xb_X2_skipBetween_45 uk hK0 h
    · replace h := uu_neg c6 h
      refine uu_iload_n dX2_skipBetween_27 rfl (List.mem_of_getElem? (i := 0) rfl) ?_
      refine uu_bipush (v := 10) dX2_skipBetween_28 (by decide) ?_
      refine uu_icmp_eq (tgt := 45) dX2_skipBetween_30 (by decide) (fun c7 => ?_) (fun c7 => ?_)
      · replace h := uu_pos c7 h
        refine uu_lv [1] (lv' := [(0, .ref (B + 7))]) rfl ?_
        exact xb_X2_skipBetween_45 uk hK0 h
      · replace h := uu_neg c7 h
        refine uu_iload_n dX2_skipBetween_33 rfl (List.mem_of_getElem? (i := 0) rfl) ?_
        refine uu_bipush (v := 13) dX2_skipBetween_34 (by decide) ?_
        refine uu_icmp_eq (tgt := 45) dX2_skipBetween_36 (by decide) (fun c8 => ?_) (fun c8 => ?_)
        · replace h := uu_pos c8 h
          refine uu_lv [1] (lv' := [(0, .ref (B + 7))]) rfl ?_
          exact xb_X2_skipBetween_45 uk hK0 h
        · replace h := uu_neg c8 h
          refine uu_iload_n dX2_skipBetween_39 rfl (List.mem_of_getElem? (i := 0) rfl) ?_
          refine uu_bipush (v := 32) dX2_skipBetween_40 (by decide) ?_
          refine uu_icmp_ne (tgt := 58) dX2_skipBetween_42 (by decide) (fun c9 => ?_) (fun c9 => ?_)
          · replace h := uu_neg c9 h
            refine uu_iload_n dX2_skipBetween_58 rfl (List.mem_of_getElem? (i := 0) rfl) ?_
            refine uu_bipush (v := 35) dX2_skipBetween_59 (by decide) ?_
            refine uu_icmp_ne (tgt := 101) dX2_skipBetween_61 (by decide) (fun c10 => ?_) (fun c10 => ?_)
            · replace h := uu_neg c10 h
              refine uu_iload_n dX2_skipBetween_101 rfl (List.mem_of_getElem? (i := 0) rfl) ?_
              refine uu_bipush (v := 47) dX2_skipBetween_102 (by decide) ?_
              refine uu_icmp_ne (tgt := 153) dX2_skipBetween_104 (by decide) (fun c11 => ?_) (fun c11 => ?_)
              · replace h := uu_neg c11 h
                refine uu_iconst (v := 1) dX2_skipBetween_153 (by decide) ?_
                have hr := Option.some.inj h
                subst hr
                exact uu_zret (x := bI true) rfl (bI_z _) dX2_skipBetween_154
              · replace h := uu_pos c11 h
                refine uu_aload_n dX2_skipBetween_107 rfl (List.mem_of_getElem? (i := 1) rfl) ?_
                refine uu_aload_n dX2_skipBetween_108 rfl (List.mem_of_getElem? (i := 1) rfl) ?_
                refine uu_geti (ci := 2) (N := 9) fX2_26 (by decide) so_7.is (by decide) (by decide) dX2_skipBetween_109 ?_
                refine uu_iconst (v := 1) dX2_skipBetween_112 (by decide) ?_
                refine uu_iadd dX2_skipBetween_113 ?_
                obtain ⟨v12, e13, h⟩ := uu_ob h
                refine uu_cv (d1 := 0) (k := 7) (ci := 2) (T := TX2) (N := 9) (As := [.int ((s.I 7 8) + 1)]) (st := []) (st' := [.int v12]) (xc_X2_byteAt uk  e13) so_7.is (by decide) rfl kX2_byteAt lX2_88 sX2_byteAt (by decide) (Nat.le_of_ble_eq_true rfl) dX2_skipBetween_114 rfl ?_
                refine uu_bipush (v := 42) dX2_skipBetween_117 (by decide) ?_
                refine uu_icmp_ne (tgt := 153) dX2_skipBetween_119 (by decide) (fun c14 => ?_) (fun c14 => ?_)
                · replace h := uu_neg c14 h
                  refine uu_iconst (v := 1) dX2_skipBetween_153 (by decide) ?_
                  have hr := Option.some.inj h
                  subst hr
                  exact uu_zret (x := bI true) rfl (bI_z _) dX2_skipBetween_154
                · replace h := uu_pos c14 h
                  refine uu_aload_n dX2_skipBetween_122 rfl (List.mem_of_getElem? (i := 1) rfl) ?_
                  refine uu_aload_n dX2_skipBetween_123 rfl (List.mem_of_getElem? (i := 1) rfl) ?_
                  refine uu_geti (ci := 2) (N := 9) fX2_26 (by decide) so_7.is (by decide) (by decide) dX2_skipBetween_124 ?_
                  refine uu_puti (ft := .int) (ci := 2) (N := 9) fX2_45 ptX2 (Or.inl rfl) (by decide) so_7.is (by decide) (by decide) (by decide +kernel) rfl rfl dX2_skipBetween_127 ?_
                  refine uu_aload_n dX2_skipBetween_130 rfl (List.mem_of_getElem? (i := 1) rfl) ?_
                  refine uu_aload_n dX2_skipBetween_131 rfl (List.mem_of_getElem? (i := 1) rfl) ?_
                  refine uu_aload_n dX2_skipBetween_132 rfl (List.mem_of_getElem? (i := 1) rfl) ?_
                  refine uu_geti (ci := 2) (N := 9) fX2_26 (by decide) so_7.is (by decide) (by decide) dX2_skipBetween_133 ?_
                  refine uu_iconst (v := 2) dX2_skipBetween_136 (by decide) ?_
                  refine uu_iadd dX2_skipBetween_137 ?_
                  obtain ⟨v15, e16, h⟩ := uu_ob h
                  refine uu_cv (d1 := 0) (k := 7) (ci := 2) (T := TX2) (N := 9) (As := [.int (((wI s 7 6 (s.I 7 8)).I 7 8) + 2)]) (st := [.ref (B + 7)]) (st' := [.int v15, .ref (B + 7)]) (xc_X2_commentEnd uk  e16) so_7.is (by decide) rfl kX2_commentEnd lX2_91 sX2_commentEnd (by decide) (Nat.le_of_ble_eq_true rfl) dX2_skipBetween_138 rfl ?_
                  refine uu_puti (ft := .int) (ci := 2) (N := 9) fX2_26 ptX2 (Or.inl rfl) (by decide) so_7.is (by decide) (by decide) (by decide +kernel) rfl rfl dX2_skipBetween_141 ?_
                  refine uu_aload_n dX2_skipBetween_144 rfl (List.mem_of_getElem? (i := 1) rfl) ?_
                  refine uu_geti (ci := 2) (N := 9) fX2_26 (by decide) so_7.is (by decide) (by decide) dX2_skipBetween_145 ?_
                  refine uu_if_ge (tgt := 155) dX2_skipBetween_148 (by decide) (fun c17 => ?_) (fun c17 => ?_)
                  · replace h := uu_pos c17 h
                    refine uu_goto (tgt := 0) dX2_skipBetween_155 (by decide) ?_
                    refine uu_lv [1] (lv' := [(0, .ref (B + 7))]) rfl ?_
                    exact hK0  _ _ h
                  · replace h := uu_neg c17 h
                    refine uu_iconst (v := 0) dX2_skipBetween_151 (by decide) ?_
                    have hr := Option.some.inj h
                    subst hr
                    exact uu_zret (x := bI false) rfl (bI_z _) dX2_skipBetween_152
            · replace h := uu_pos c10 h
              refine uu_aload_n dX2_skipBetween_64 rfl (List.mem_of_getElem? (i := 1) rfl) ?_
              obtain ⟨j18, e19, h⟩ := uu_ob h
              refine uu_getr (ci := 2) (N := 9) fX2_18 (by decide) so_7.is (by decide) (by decide) e19 dX2_skipBetween_65 ?_
              refine uu_aload_n dX2_skipBetween_68 rfl (List.mem_of_getElem? (i := 1) rfl) ?_
              refine uu_geti (ci := 2) (N := 9) fX2_26 (by decide) so_7.is (by decide) (by decide) dX2_skipBetween_69 ?_
              refine uu_aload_n dX2_skipBetween_72 rfl (List.mem_of_getElem? (i := 1) rfl) ?_
              refine uu_geti (ci := 2) (N := 9) fX2_29 (by decide) so_7.is (by decide) (by decide) dX2_skipBetween_73 ?_
              refine uu_bipush (v := 10) dX2_skipBetween_76 (by decide) ?_
              obtain ⟨v20, e21, h⟩ := uu_ob h
              refine uu_cs (d1 := 0) (As := [.ref (B + j18), .int (s.I 7 8), .int (s.I 7 5), .int 10]) (st := []) (st' := [.int v20]) (xc_X9_find uk  e21) kX9_find lX2_84 sX9_find (by decide) (Nat.le_of_ble_eq_true rfl) dX2_skipBetween_78 rfl ?_
              refine uu_istore_n dX2_skipBetween_81 rfl (by decide) rfl ?_
              refine uu_aload_n dX2_skipBetween_82 rfl (List.mem_of_getElem? (i := 2) rfl) ?_
              refine uu_iload_n dX2_skipBetween_83 rfl (List.mem_of_getElem? (i := 0) rfl) ?_
              refine uu_if_ge (tgt := 94) dX2_skipBetween_84 (by decide) (fun c22 => ?_) (fun c22 => ?_)
              · replace h := uu_pos c22 h
                refine uu_iload_n dX2_skipBetween_94 rfl (List.mem_of_getElem? (i := 0) rfl) ?_
                refine uu_puti (ft := .int) (ci := 2) (N := 9) fX2_26 ptX2 (Or.inl rfl) (by decide) so_7.is (by decide) (by decide) (by decide +kernel) rfl rfl dX2_skipBetween_95 ?_
                refine uu_goto (tgt := 155) dX2_skipBetween_98 (by decide) ?_
                refine uu_goto (tgt := 0) dX2_skipBetween_155 (by decide) ?_
                refine uu_lv [2] (lv' := [(0, .ref (B + 7))]) rfl ?_
                exact hK0  _ _ h
              · replace h := uu_neg c22 h
                refine uu_aload_n dX2_skipBetween_87 rfl (List.mem_of_getElem? (i := 2) rfl) ?_
                refine uu_geti (ci := 2) (N := 9) fX2_29 (by decide) so_7.is (by decide) (by decide) dX2_skipBetween_88 ?_
                refine uu_goto (tgt := 95) dX2_skipBetween_91 (by decide) ?_
                refine uu_puti (ft := .int) (ci := 2) (N := 9) fX2_26 ptX2 (Or.inl rfl) (by decide) so_7.is (by decide) (by decide) (by decide +kernel) rfl rfl dX2_skipBetween_95 ?_
                refine uu_goto (tgt := 155) dX2_skipBetween_98 (by decide) ?_
                refine uu_goto (tgt := 0) dX2_skipBetween_155 (by decide) ?_
                refine uu_lv [2] (lv' := [(0, .ref (B + 7))]) rfl ?_
                exact hK0  _ _ h
          · replace h := uu_pos c9 h
            refine uu_lv [1] (lv' := [(0, .ref (B + 7))]) rfl ?_
            exact xb_X2_skipBetween_45 uk hK0 h
def fn_X2_skipBetween_0  : Nat → uS → Option (uS × Bool)
  | 0 => fun _ => none
  | n + 1 => fb_X2_skipBetween_0 (fn_X2_skipBetween_0  n)
set_option maxRecDepth 100000 in
set_option maxHeartbeats 4000000 in
theorem xn_X2_skipBetween_0 {l : Launch} {D : va_G} {A : Nat → ClassId} {B : Nat} {Z : State → Heap → Prop} {vF : Value} (uk : uK B Z vF)   : ∀ (n : Nat)   (s : uS) (r : (uS × Bool)), fn_X2_skipBetween_0  n  s = some r → GU l D A B Z mX2_skipBetween 1 (r.1, some (.int (bI r.2))) s 0 [(0, .ref (B + 7))] [] := by
  intro n
  induction n with
  | zero => intro s r h
            cases h
  | succ n ih => intro s r h
                 exact xb_X2_skipBetween_0 uk ih  h
def fn_X2_skipBetween  (s : uS) : Option (uS × Bool) := fn_X2_skipBetween_0 uFu s
set_option maxRecDepth 100000 in
set_option maxHeartbeats 4000000 in
theorem xc_X2_skipBetween {l : Launch} {D : va_G} {A : Nat → ClassId} {B : Nat} {Z : State → Heap → Prop} {vF : Value} (uk : uK B Z vF)  {s : uS} {r : (uS × Bool)}  (h : fn_X2_skipBetween  s = some r) : CU l D A B Z 1 mX2_skipBetween s [.ref (B + 7)] (r.1, some (.int (bI r.2))) := by
  unfold fn_X2_skipBetween at h
  refine cu_of rfl uk.1.1 (Nat.le_of_ble_eq_true rfl) ?_
  show GU _ _ _ _ _ _ _ _ _ 0 [(0, .ref (B + 7))] []
  exact xn_X2_skipBetween_0 uk  _ _ _ h
abbrev mX9_isLetter : hM := (yX9_isLetter, cX9_isLetter, 1, (some (.boolean)))
theorem dX9_isLetter_12 : decode cX9_isLetter 12 = .ok (.iload_n 0, 1) := by decide +kernel
theorem dX9_isLetter_13 : decode cX9_isLetter 13 = .ok (.bipush 97, 2) := by decide +kernel
theorem dX9_isLetter_15 : decode cX9_isLetter 15 = .ok (.if_icmp .lt 13, 3) := by decide +kernel
theorem dX9_isLetter_28 : decode cX9_isLetter 28 = .ok (.iconst 0, 1) := by decide +kernel
theorem dX9_isLetter_29 : decode cX9_isLetter 29 = .ok (.ireturn, 1) := by decide +kernel
theorem dX9_isLetter_18 : decode cX9_isLetter 18 = .ok (.iload_n 0, 1) := by decide +kernel
theorem dX9_isLetter_19 : decode cX9_isLetter 19 = .ok (.bipush 122, 2) := by decide +kernel
theorem dX9_isLetter_21 : decode cX9_isLetter 21 = .ok (.if_icmp .gt 7, 3) := by decide +kernel
theorem dX9_isLetter_24 : decode cX9_isLetter 24 = .ok (.iconst 1, 1) := by decide +kernel
theorem dX9_isLetter_25 : decode cX9_isLetter 25 = .ok (.goto 4, 3) := by decide +kernel
theorem dX9_isLetter_0 : decode cX9_isLetter 0 = .ok (.iload_n 0, 1) := by decide +kernel
theorem dX9_isLetter_1 : decode cX9_isLetter 1 = .ok (.bipush 65, 2) := by decide +kernel
theorem dX9_isLetter_3 : decode cX9_isLetter 3 = .ok (.if_icmp .lt 9, 3) := by decide +kernel
theorem dX9_isLetter_6 : decode cX9_isLetter 6 = .ok (.iload_n 0, 1) := by decide +kernel
theorem dX9_isLetter_7 : decode cX9_isLetter 7 = .ok (.bipush 90, 2) := by decide +kernel
theorem dX9_isLetter_9 : decode cX9_isLetter 9 = .ok (.if_icmp .le 15, 3) := by decide +kernel
def fb_X9_isLetter_12  (x0 : Int32) (s : uS) : Option Bool := if x0 < 97 then (some false) else (if (122 : Int32) < x0 then (some false) else (some true))
set_option maxRecDepth 100000 in
set_option maxHeartbeats 4000000 in
theorem xb_X9_isLetter_12 {l : Launch} {D : va_G} {A : Nat → ClassId} {B : Nat} {Z : State → Heap → Prop} {vF : Value} (uk : uK B Z vF)   {x0 : Int32} {s : uS} {r : Bool}  (h : fb_X9_isLetter_12  x0 s = some r) : GU l D A B Z mX9_isLetter 0 (s, some (.int (bI r))) s 12 [(0, .int x0)] [] := by
  unfold fb_X9_isLetter_12 at h
  refine uu_iload_n dX9_isLetter_12 rfl (List.mem_of_getElem? (i := 0) rfl) ?_
  refine uu_bipush (v := 97) dX9_isLetter_13 (by decide) ?_
  refine uu_icmp_lt (tgt := 28) dX9_isLetter_15 (by decide) (fun c1 => ?_) (fun c1 => ?_)
  · replace h := uu_pos c1 h
    refine uu_iconst (v := 0) dX9_isLetter_28 (by decide) ?_
    have hr := Option.some.inj h
    subst hr
    exact uu_zret (x := bI false) rfl (bI_z _) dX9_isLetter_29
  · replace h := uu_neg c1 h
    refine uu_iload_n dX9_isLetter_18 rfl (List.mem_of_getElem? (i := 0) rfl) ?_
    refine uu_bipush (v := 122) dX9_isLetter_19 (by decide) ?_
    refine uu_icmp_gt (tgt := 28) dX9_isLetter_21 (by decide) (fun c2 => ?_) (fun c2 => ?_)
    · replace h := uu_pos c2 h
      refine uu_iconst (v := 0) dX9_isLetter_28 (by decide) ?_
      have hr := Option.some.inj h
      subst hr
      exact uu_zret (x := bI false) rfl (bI_z _) dX9_isLetter_29
    · replace h := uu_neg c2 h
      refine uu_iconst (v := 1) dX9_isLetter_24 (by decide) ?_
      refine uu_goto (tgt := 29) dX9_isLetter_25 (by decide) ?_
      have hr := Option.some.inj h
      subst hr
      exact uu_zret (x := bI true) rfl (bI_z _) dX9_isLetter_29
def fn_X9_isLetter (x0 : Int32) (s : uS) : Option Bool := if x0 < 65 then (fb_X9_isLetter_12 x0 s) else (if x0 ≤ 90 then (some true) else (fb_X9_isLetter_12 x0 s))
set_option maxRecDepth 100000 in
set_option maxHeartbeats 4000000 in
theorem xc_X9_isLetter {l : Launch} {D : va_G} {A : Nat → ClassId} {B : Nat} {Z : State → Heap → Prop} {vF : Value} (uk : uK B Z vF) {x0 : Int32} {s : uS} {r : Bool}  (h : fn_X9_isLetter x0 s = some r) : CU l D A B Z 0 mX9_isLetter s [.int x0] (s, some (.int (bI r))) := by
  unfold fn_X9_isLetter at h
  refine cu_of rfl uk.1.1 (Nat.le_of_ble_eq_true rfl) ?_
  show GU _ _ _ _ _ _ _ _ _ 0 [(0, .int x0)] []
  refine uu_iload_n dX9_isLetter_0 rfl (List.mem_of_getElem? (i := 0) rfl) ?_
  refine uu_bipush (v := 65) dX9_isLetter_1 (by decide) ?_
  refine uu_icmp_lt (tgt := 12) dX9_isLetter_3 (by decide) (fun c1 => ?_) (fun c1 => ?_)
  · replace h := uu_pos c1 h
    exact xb_X9_isLetter_12 uk  h
  · replace h := uu_neg c1 h
    refine uu_iload_n dX9_isLetter_6 rfl (List.mem_of_getElem? (i := 0) rfl) ?_
    refine uu_bipush (v := 90) dX9_isLetter_7 (by decide) ?_
    refine uu_icmp_le (tgt := 24) dX9_isLetter_9 (by decide) (fun c2 => ?_) (fun c2 => ?_)
    · replace h := uu_pos c2 h
      refine uu_iconst (v := 1) dX9_isLetter_24 (by decide) ?_
      refine uu_goto (tgt := 29) dX9_isLetter_25 (by decide) ?_
      have hr := Option.some.inj h
      subst hr
      exact uu_zret (x := bI true) rfl (bI_z _) dX9_isLetter_29
    · replace h := uu_neg c2 h
      exact xb_X9_isLetter_12 uk  h
abbrev mX2_isWordStart : hM := (yX2_isWordStart, cX2_isWordStart, 2, (some (.boolean)))
theorem dX2_isWordStart_0 : decode cX2_isWordStart 0 = .ok (.iload_n 1, 1) := by decide +kernel
theorem dX2_isWordStart_1 : decode cX2_isWordStart 1 = .ok (.aload_n 0, 1) := by decide +kernel
theorem dX2_isWordStart_2 : decode cX2_isWordStart 2 = .ok (.getfield 29, 3) := by decide +kernel
theorem dX2_isWordStart_5 : decode cX2_isWordStart 5 = .ok (.if_icmp .ge 30, 3) := by decide +kernel
theorem dX2_isWordStart_35 : decode cX2_isWordStart 35 = .ok (.iconst 0, 1) := by decide +kernel
theorem dX2_isWordStart_36 : decode cX2_isWordStart 36 = .ok (.ireturn, 1) := by decide +kernel
theorem dX2_isWordStart_8 : decode cX2_isWordStart 8 = .ok (.aload_n 0, 1) := by decide +kernel
theorem dX2_isWordStart_9 : decode cX2_isWordStart 9 = .ok (.getfield 18, 3) := by decide +kernel
theorem dX2_isWordStart_12 : decode cX2_isWordStart 12 = .ok (.iload_n 1, 1) := by decide +kernel
theorem dX2_isWordStart_13 : decode cX2_isWordStart 13 = .ok (.baload, 1) := by decide +kernel
theorem kX9_isLetter : h_ml mX9_isLetter 1 := ⟨h_t4 217 rfl rfl, h_t1 4 rfl rfl, ⟨by decide, by decide, by decide +kernel⟩, by decide⟩
theorem lX2_94 : Cond.methodLink RX2 94 mX9_isLetter.1 ∈ lw_g := h_t4 215 rfl rfl
theorem sX9_isLetter : Cond.static mX9_isLetter.1 ∈ lw_g := h_t4 216 rfl rfl
theorem dX2_isWordStart_14 : decode cX2_isWordStart 14 = .ok (.invokestatic 94, 3) := by decide +kernel
theorem dX2_isWordStart_17 : decode cX2_isWordStart 17 = .ok (.ifCond .ne 14, 3) := by decide +kernel
theorem dX2_isWordStart_31 : decode cX2_isWordStart 31 = .ok (.iconst 1, 1) := by decide +kernel
theorem dX2_isWordStart_32 : decode cX2_isWordStart 32 = .ok (.goto 4, 3) := by decide +kernel
theorem dX2_isWordStart_20 : decode cX2_isWordStart 20 = .ok (.aload_n 0, 1) := by decide +kernel
theorem dX2_isWordStart_21 : decode cX2_isWordStart 21 = .ok (.getfield 18, 3) := by decide +kernel
theorem dX2_isWordStart_24 : decode cX2_isWordStart 24 = .ok (.iload_n 1, 1) := by decide +kernel
theorem dX2_isWordStart_25 : decode cX2_isWordStart 25 = .ok (.baload, 1) := by decide +kernel
theorem dX2_isWordStart_26 : decode cX2_isWordStart 26 = .ok (.bipush 95, 2) := by decide +kernel
theorem dX2_isWordStart_28 : decode cX2_isWordStart 28 = .ok (.if_icmp .ne 7, 3) := by decide +kernel
def fn_X2_isWordStart (x1 : Int32) (s : uS) : Option Bool := if (s.I 7 5) ≤ x1 then (some false) else ((s.R 7 1).bind fun j2 => (iget 21 s j2 x1).bind fun v4 => (fn_X9_isLetter v4 s).bind fun v6 => if v6 = true then (some true) else ((s.R 7 1).bind fun j9 => (iget 21 s j9 x1).bind fun v11 => if v11 = 95 then (some true) else (some false)))
set_option maxRecDepth 100000 in
set_option maxHeartbeats 4000000 in
theorem xc_X2_isWordStart {l : Launch} {D : va_G} {A : Nat → ClassId} {B : Nat} {Z : State → Heap → Prop} {vF : Value} (uk : uK B Z vF) {x1 : Int32} {s : uS} {r : Bool}  (h : fn_X2_isWordStart x1 s = some r) : CU l D A B Z 1 mX2_isWordStart s [.ref (B + 7), .int x1] (s, some (.int (bI r))) := by
  unfold fn_X2_isWordStart at h
  refine cu_of rfl uk.1.1 (Nat.le_of_ble_eq_true rfl) ?_
  show GU _ _ _ _ _ _ _ _ _ 0 [(0, .ref (B + 7)), (1, .int x1)] []
  refine uu_iload_n dX2_isWordStart_0 rfl (List.mem_of_getElem? (i := 1) rfl) ?_
  refine uu_aload_n dX2_isWordStart_1 rfl (List.mem_of_getElem? (i := 0) rfl) ?_
  refine uu_geti (ci := 2) (N := 9) fX2_29 (by decide) so_7.is (by decide) (by decide) dX2_isWordStart_2 ?_
  refine uu_icmp_ge (tgt := 35) dX2_isWordStart_5 (by decide) (fun c1 => ?_) (fun c1 => ?_)
  · replace h := uu_pos c1 h
    refine uu_iconst (v := 0) dX2_isWordStart_35 (by decide) ?_
    have hr := Option.some.inj h
    subst hr
    exact uu_zret (x := bI false) rfl (bI_z _) dX2_isWordStart_36
  · replace h := uu_neg c1 h
    refine uu_aload_n dX2_isWordStart_8 rfl (List.mem_of_getElem? (i := 0) rfl) ?_
    obtain ⟨j2, e3, h⟩ := uu_ob h
    refine uu_getr (ci := 2) (N := 9) fX2_18 (by decide) so_7.is (by decide) (by decide) e3 dX2_isWordStart_9 ?_
    refine uu_iload_n dX2_isWordStart_12 rfl (List.mem_of_getElem? (i := 1) rfl) ?_
    obtain ⟨v4, e5, h⟩ := uu_ob h
    refine uu_bald e5 dX2_isWordStart_13 ?_
    obtain ⟨v6, e7, h⟩ := uu_ob h
    refine uu_cs (d1 := 0) (As := [.int v4]) (st := []) (st' := [.int (bI v6)]) (xc_X9_isLetter uk  e7) kX9_isLetter lX2_94 sX9_isLetter (by decide) (Nat.le_of_ble_eq_true rfl) dX2_isWordStart_14 rfl ?_
    refine uu_ifb_ne (tgt := 31) dX2_isWordStart_17 (by decide) (fun c8 => ?_) (fun c8 => ?_)
    · replace h := uu_pos c8 h
      refine uu_iconst (v := 1) dX2_isWordStart_31 (by decide) ?_
      refine uu_goto (tgt := 36) dX2_isWordStart_32 (by decide) ?_
      have hr := Option.some.inj h
      subst hr
      exact uu_zret (x := bI true) rfl (bI_z _) dX2_isWordStart_36
    · replace h := uu_neg c8 h
      refine uu_aload_n dX2_isWordStart_20 rfl (List.mem_of_getElem? (i := 0) rfl) ?_
      obtain ⟨j9, e10, h⟩ := uu_ob h
      refine uu_getr (ci := 2) (N := 9) fX2_18 (by decide) so_7.is (by decide) (by decide) e10 dX2_isWordStart_21 ?_
      refine uu_iload_n dX2_isWordStart_24 rfl (List.mem_of_getElem? (i := 1) rfl) ?_
      obtain ⟨v11, e12, h⟩ := uu_ob h
      refine uu_bald e12 dX2_isWordStart_25 ?_
      refine uu_bipush (v := 95) dX2_isWordStart_26 (by decide) ?_
      refine uu_icmp_ne (tgt := 35) dX2_isWordStart_28 (by decide) (fun c13 => ?_) (fun c13 => ?_)
      · replace h := uu_neg c13 h
        refine uu_iconst (v := 0) dX2_isWordStart_35 (by decide) ?_
        have hr := Option.some.inj h
        subst hr
        exact uu_zret (x := bI false) rfl (bI_z _) dX2_isWordStart_36
      · replace h := uu_pos c13 h
        refine uu_iconst (v := 1) dX2_isWordStart_31 (by decide) ?_
        refine uu_goto (tgt := 36) dX2_isWordStart_32 (by decide) ?_
        have hr := Option.some.inj h
        subst hr
        exact uu_zret (x := bI true) rfl (bI_z _) dX2_isWordStart_36
abbrev mX2_readWord : hM := (yX2_readWord, cX2_readWord, 3, none)
theorem dX2_readWord_47 : decode cX2_readWord 47 = .ok (.aload_n 0, 1) := by decide +kernel
theorem dX2_readWord_48 : decode cX2_readWord 48 = .ok (.dup, 1) := by decide +kernel
theorem dX2_readWord_49 : decode cX2_readWord 49 = .ok (.getfield 26, 3) := by decide +kernel
theorem dX2_readWord_52 : decode cX2_readWord 52 = .ok (.iconst 1, 1) := by decide +kernel
theorem dX2_readWord_53 : decode cX2_readWord 53 = .ok (.iadd, 1) := by decide +kernel
theorem dX2_readWord_54 : decode cX2_readWord 54 = .ok (.putfield 26, 3) := by decide +kernel
theorem dX2_readWord_57 : decode cX2_readWord 57 = .ok (.goto (-47), 3) := by decide +kernel
theorem dX2_readWord_10 : decode cX2_readWord 10 = .ok (.aload_n 0, 1) := by decide +kernel
theorem dX2_readWord_11 : decode cX2_readWord 11 = .ok (.getfield 26, 3) := by decide +kernel
theorem dX2_readWord_14 : decode cX2_readWord 14 = .ok (.aload_n 0, 1) := by decide +kernel
theorem dX2_readWord_15 : decode cX2_readWord 15 = .ok (.getfield 29, 3) := by decide +kernel
theorem dX2_readWord_18 : decode cX2_readWord 18 = .ok (.if_icmp .ge 42, 3) := by decide +kernel
theorem dX2_readWord_60 : decode cX2_readWord 60 = .ok (.aload_n 0, 1) := by decide +kernel
theorem dX2_readWord_61 : decode cX2_readWord 61 = .ok (.iload_n 2, 1) := by decide +kernel
theorem dX2_readWord_62 : decode cX2_readWord 62 = .ok (.putfield 42, 3) := by decide +kernel
theorem dX2_readWord_65 : decode cX2_readWord 65 = .ok (.return_, 1) := by decide +kernel
theorem dX2_readWord_21 : decode cX2_readWord 21 = .ok (.aload_n 0, 1) := by decide +kernel
theorem dX2_readWord_22 : decode cX2_readWord 22 = .ok (.aload_n 0, 1) := by decide +kernel
theorem dX2_readWord_23 : decode cX2_readWord 23 = .ok (.getfield 26, 3) := by decide +kernel
theorem kX2_isWordStart : h_ml mX2_isWordStart 1 := ⟨h_t4 214 rfl rfl, h_t1 3 rfl rfl, ⟨by decide, by decide, by decide +kernel⟩, by decide⟩
theorem lX2_52 : Cond.methodLink RX2 52 mX2_isWordStart.1 ∈ lw_g := h_t4 211 rfl rfl
theorem sX2_isWordStart : Cond.instanceMethod mX2_isWordStart.1 ∈ lw_g ∧ Cond.selects mX2_isWordStart.1.cls mX2_isWordStart.1 mX2_isWordStart.1 ∈ lw_g := ⟨h_t4 213 rfl rfl, h_ins 23 rfl⟩
theorem dX2_readWord_26 : decode cX2_readWord 26 = .ok (.invokevirtual 52, 3) := by decide +kernel
theorem dX2_readWord_29 : decode cX2_readWord 29 = .ok (.ifCond .ne 18, 3) := by decide +kernel
theorem dX2_readWord_32 : decode cX2_readWord 32 = .ok (.aload_n 0, 1) := by decide +kernel
theorem dX2_readWord_33 : decode cX2_readWord 33 = .ok (.getfield 18, 3) := by decide +kernel
theorem dX2_readWord_36 : decode cX2_readWord 36 = .ok (.aload_n 0, 1) := by decide +kernel
theorem dX2_readWord_37 : decode cX2_readWord 37 = .ok (.getfield 26, 3) := by decide +kernel
theorem dX2_readWord_40 : decode cX2_readWord 40 = .ok (.baload, 1) := by decide +kernel
theorem lX2_67 : Cond.methodLink RX2 67 mX9_isDigit.1 ∈ lw_g := h_t4 222 rfl rfl
theorem dX2_readWord_41 : decode cX2_readWord 41 = .ok (.invokestatic 67, 3) := by decide +kernel
theorem dX2_readWord_44 : decode cX2_readWord 44 = .ok (.ifCond .eq 16, 3) := by decide +kernel
theorem dX2_readWord_0 : decode cX2_readWord 0 = .ok (.aload_n 0, 1) := by decide +kernel
theorem dX2_readWord_1 : decode cX2_readWord 1 = .ok (.iload_n 1, 1) := by decide +kernel
theorem dX2_readWord_2 : decode cX2_readWord 2 = .ok (.putfield 35, 3) := by decide +kernel
theorem dX2_readWord_5 : decode cX2_readWord 5 = .ok (.aload_n 0, 1) := by decide +kernel
theorem dX2_readWord_6 : decode cX2_readWord 6 = .ok (.iload_n 1, 1) := by decide +kernel
theorem dX2_readWord_7 : decode cX2_readWord 7 = .ok (.putfield 26, 3) := by decide +kernel
def fb_X2_readWord_47 (K10 : Int32 → uS → Option uS) (x2 : Int32) (s : uS) : Option uS := K10 x2 (wI s 7 8 ((s.I 7 8) + 1))
set_option maxRecDepth 100000 in
set_option maxHeartbeats 4000000 in
theorem xb_X2_readWord_47 {l : Launch} {D : va_G} {A : Nat → ClassId} {B : Nat} {Z : State → Heap → Prop} {vF : Value} (uk : uK B Z vF) {K10 : Int32 → uS → Option uS} (hK10 : ∀ (x2 : Int32)  (s : uS) (r : uS), K10 x2 s = some r → GU l D A B Z mX2_readWord 2 (r, none) s 10 [(0, .ref (B + 7)), (2, .int x2)] []) {x2 : Int32} {s : uS} {r : uS}  (h : fb_X2_readWord_47 K10 x2 s = some r) : GU l D A B Z mX2_readWord 2 (r, none) s 47 [(0, .ref (B + 7)), (2, .int x2)] [] := by
  unfold fb_X2_readWord_47 at h
  refine uu_aload_n dX2_readWord_47 rfl (List.mem_of_getElem? (i := 0) rfl) ?_
  refine uu_dup dX2_readWord_48 rfl ?_
  refine uu_geti (ci := 2) (N := 9) fX2_26 (by decide) so_7.is (by decide) (by decide) dX2_readWord_49 ?_
  refine uu_iconst (v := 1) dX2_readWord_52 (by decide) ?_
  refine uu_iadd dX2_readWord_53 ?_
  refine uu_puti (ft := .int) (ci := 2) (N := 9) fX2_26 ptX2 (Or.inl rfl) (by decide) so_7.is (by decide) (by decide) (by decide +kernel) rfl rfl dX2_readWord_54 ?_
  refine uu_goto (tgt := 10) dX2_readWord_57 (by decide) ?_
  exact hK10 x2 _ _ h
def fb_X2_readWord_10 (K10 : Int32 → uS → Option uS) (x2 : Int32) (s : uS) : Option uS := if (s.I 7 5) ≤ (s.I 7 8) then (some (wI s 7 2 x2)) else ((fn_X2_isWordStart (s.I 7 8) s).bind fun v2 => if v2 = true then (fb_X2_readWord_47 K10 x2 s) else ((s.R 7 1).bind fun j5 => (iget 21 s j5 (s.I 7 8)).bind fun v7 => (fn_X9_isDigit v7 s).bind fun v9 => if v9 = true then (fb_X2_readWord_47 K10 x2 s) else (some (wI s 7 2 x2))))
set_option maxRecDepth 100000 in
set_option maxHeartbeats 4000000 in
theorem xb_X2_readWord_10 {l : Launch} {D : va_G} {A : Nat → ClassId} {B : Nat} {Z : State → Heap → Prop} {vF : Value} (uk : uK B Z vF) {K10 : Int32 → uS → Option uS} (hK10 : ∀ (x2 : Int32)  (s : uS) (r : uS), K10 x2 s = some r → GU l D A B Z mX2_readWord 2 (r, none) s 10 [(0, .ref (B + 7)), (2, .int x2)] []) {x2 : Int32} {s : uS} {r : uS}  (h : fb_X2_readWord_10 K10 x2 s = some r) : GU l D A B Z mX2_readWord 2 (r, none) s 10 [(0, .ref (B + 7)), (2, .int x2)] [] := by
  unfold fb_X2_readWord_10 at h
  refine uu_aload_n dX2_readWord_10 rfl (List.mem_of_getElem? (i := 0) rfl) ?_
  refine uu_geti (ci := 2) (N := 9) fX2_26 (by decide) so_7.is (by decide) (by decide) dX2_readWord_11 ?_
  refine uu_aload_n dX2_readWord_14 rfl (List.mem_of_getElem? (i := 0) rfl) ?_
  refine uu_geti (ci := 2) (N := 9) fX2_29 (by decide) so_7.is (by decide) (by decide) dX2_readWord_15 ?_
  refine uu_icmp_ge (tgt := 60) dX2_readWord_18 (by decide) (fun c1 => ?_) (fun c1 => ?_)
  · replace h := uu_pos c1 h
    refine uu_aload_n dX2_readWord_60 rfl (List.mem_of_getElem? (i := 0) rfl) ?_
    refine uu_iload_n dX2_readWord_61 rfl (List.mem_of_getElem? (i := 1) rfl) ?_
    refine uu_puti (ft := .int) (ci := 2) (N := 9) fX2_42 ptX2 (Or.inl rfl) (by decide) so_7.is (by decide) (by decide) (by decide +kernel) rfl rfl dX2_readWord_62 ?_
    have hr := Option.some.inj h
    subst hr
    exact uu_vret rfl dX2_readWord_65
  · replace h := uu_neg c1 h
    refine uu_aload_n dX2_readWord_21 rfl (List.mem_of_getElem? (i := 0) rfl) ?_
    refine uu_aload_n dX2_readWord_22 rfl (List.mem_of_getElem? (i := 0) rfl) ?_
    refine uu_geti (ci := 2) (N := 9) fX2_26 (by decide) so_7.is (by decide) (by decide) dX2_readWord_23 ?_
    obtain ⟨v2, e3, h⟩ := uu_ob h
    refine uu_cv (d1 := 1) (k := 7) (ci := 2) (T := TX2) (N := 9) (As := [.int (s.I 7 8)]) (st := []) (st' := [.int (bI v2)]) (xc_X2_isWordStart uk  e3) so_7.is (by decide) rfl kX2_isWordStart lX2_52 sX2_isWordStart (by decide) (Nat.le_of_ble_eq_true rfl) dX2_readWord_26 rfl ?_
    refine uu_ifb_ne (tgt := 47) dX2_readWord_29 (by decide) (fun c4 => ?_) (fun c4 => ?_)
    · replace h := uu_pos c4 h
      exact xb_X2_readWord_47 uk hK10 h
    · replace h := uu_neg c4 h
      refine uu_aload_n dX2_readWord_32 rfl (List.mem_of_getElem? (i := 0) rfl) ?_
      obtain ⟨j5, e6, h⟩ := uu_ob h
      refine uu_getr (ci := 2) (N := 9) fX2_18 (by decide) so_7.is (by decide) (by decide) e6 dX2_readWord_33 ?_
      refine uu_aload_n dX2_readWord_36 rfl (List.mem_of_getElem? (i := 0) rfl) ?_
      refine uu_geti (ci := 2) (N := 9) fX2_26 (by decide) so_7.is (by decide) (by decide) dX2_readWord_37 ?_
      obtain ⟨v7, e8, h⟩ := uu_ob h
      refine uu_bald e8 dX2_readWord_40 ?_
      obtain ⟨v9, e10, h⟩ := uu_ob h
      refine uu_cs (d1 := 0) (As := [.int v7]) (st := []) (st' := [.int (bI v9)]) (xc_X9_isDigit uk  e10) kX9_isDigit lX2_67 sX9_isDigit (by decide) (Nat.le_of_ble_eq_true rfl) dX2_readWord_41 rfl ?_
      refine uu_ifb_eq (tgt := 60) dX2_readWord_44 (by decide) (fun c11 => ?_) (fun c11 => ?_)
      · replace h := uu_neg c11 h
        refine uu_aload_n dX2_readWord_60 rfl (List.mem_of_getElem? (i := 0) rfl) ?_
        refine uu_iload_n dX2_readWord_61 rfl (List.mem_of_getElem? (i := 1) rfl) ?_
        refine uu_puti (ft := .int) (ci := 2) (N := 9) fX2_42 ptX2 (Or.inl rfl) (by decide) so_7.is (by decide) (by decide) (by decide +kernel) rfl rfl dX2_readWord_62 ?_
        have hr := Option.some.inj h
        subst hr
        exact uu_vret rfl dX2_readWord_65
      · replace h := uu_pos c11 h
        exact xb_X2_readWord_47 uk hK10 h
def fn_X2_readWord_10  : Nat → Int32 → uS → Option uS
  | 0 => fun _ _ => none
  | n + 1 => fb_X2_readWord_10 (fn_X2_readWord_10  n)
set_option maxRecDepth 100000 in
set_option maxHeartbeats 4000000 in
theorem xn_X2_readWord_10 {l : Launch} {D : va_G} {A : Nat → ClassId} {B : Nat} {Z : State → Heap → Prop} {vF : Value} (uk : uK B Z vF)   : ∀ (n : Nat) (x2 : Int32)  (s : uS) (r : uS), fn_X2_readWord_10  n x2 s = some r → GU l D A B Z mX2_readWord 2 (r, none) s 10 [(0, .ref (B + 7)), (2, .int x2)] [] := by
  intro n
  induction n with
  | zero => intro x2 s r h
            cases h
  | succ n ih => intro x2 s r h
                 exact xb_X2_readWord_10 uk ih  h
def fn_X2_readWord (x1 : Int32) (x2 : Int32) (s : uS) : Option uS := fn_X2_readWord_10 uFu x2 (wI (wI s 7 7 x1) 7 8 x1)
set_option maxRecDepth 100000 in
set_option maxHeartbeats 4000000 in
theorem xc_X2_readWord {l : Launch} {D : va_G} {A : Nat → ClassId} {B : Nat} {Z : State → Heap → Prop} {vF : Value} (uk : uK B Z vF) {x1 : Int32} {x2 : Int32} {s : uS} {r : uS}  (h : fn_X2_readWord x1 x2 s = some r) : CU l D A B Z 2 mX2_readWord s [.ref (B + 7), .int x1, .int x2] (r, none) := by
  unfold fn_X2_readWord at h
  refine cu_of rfl uk.1.1 (Nat.le_of_ble_eq_true rfl) ?_
  show GU _ _ _ _ _ _ _ _ _ 0 [(0, .ref (B + 7)), (1, .int x1), (2, .int x2)] []
  refine uu_aload_n dX2_readWord_0 rfl (List.mem_of_getElem? (i := 0) rfl) ?_
  refine uu_iload_n dX2_readWord_1 rfl (List.mem_of_getElem? (i := 1) rfl) ?_
  refine uu_puti (ft := .int) (ci := 2) (N := 9) fX2_35 ptX2 (Or.inl rfl) (by decide) so_7.is (by decide) (by decide) (by decide +kernel) rfl rfl dX2_readWord_2 ?_
  refine uu_aload_n dX2_readWord_5 rfl (List.mem_of_getElem? (i := 0) rfl) ?_
  refine uu_iload_n dX2_readWord_6 rfl (List.mem_of_getElem? (i := 1) rfl) ?_
  refine uu_puti (ft := .int) (ci := 2) (N := 9) fX2_26 ptX2 (Or.inl rfl) (by decide) so_7.is (by decide) (by decide) (by decide +kernel) rfl rfl dX2_readWord_7 ?_
  refine uu_lv [0, 2] (lv' := [(0, .ref (B + 7)), (2, .int x2)]) rfl ?_
  exact xn_X2_readWord_10 uk  _ _ _ _ h
abbrev mX9_isBlank : hM := (yX9_isBlank, cX9_isBlank, 1, (some (.boolean)))
theorem dX9_isBlank_0 : decode cX9_isBlank 0 = .ok (.iload_n 0, 1) := by decide +kernel
theorem dX9_isBlank_1 : decode cX9_isBlank 1 = .ok (.bipush 32, 2) := by decide +kernel
theorem dX9_isBlank_3 : decode cX9_isBlank 3 = .ok (.if_icmp .eq 9, 3) := by decide +kernel
theorem dX9_isBlank_12 : decode cX9_isBlank 12 = .ok (.iconst 1, 1) := by decide +kernel
theorem dX9_isBlank_13 : decode cX9_isBlank 13 = .ok (.goto 4, 3) := by decide +kernel
theorem dX9_isBlank_17 : decode cX9_isBlank 17 = .ok (.ireturn, 1) := by decide +kernel
theorem dX9_isBlank_6 : decode cX9_isBlank 6 = .ok (.iload_n 0, 1) := by decide +kernel
theorem dX9_isBlank_7 : decode cX9_isBlank 7 = .ok (.bipush 9, 2) := by decide +kernel
theorem dX9_isBlank_9 : decode cX9_isBlank 9 = .ok (.if_icmp .ne 7, 3) := by decide +kernel
theorem dX9_isBlank_16 : decode cX9_isBlank 16 = .ok (.iconst 0, 1) := by decide +kernel
def fn_X9_isBlank (x0 : Int32) (s : uS) : Option Bool := if x0 = 32 then (some true) else (if x0 = 9 then (some true) else (some false))
set_option maxRecDepth 100000 in
set_option maxHeartbeats 4000000 in
theorem xc_X9_isBlank {l : Launch} {D : va_G} {A : Nat → ClassId} {B : Nat} {Z : State → Heap → Prop} {vF : Value} (uk : uK B Z vF) {x0 : Int32} {s : uS} {r : Bool}  (h : fn_X9_isBlank x0 s = some r) : CU l D A B Z 0 mX9_isBlank s [.int x0] (s, some (.int (bI r))) := by
  unfold fn_X9_isBlank at h
  refine cu_of rfl uk.1.1 (Nat.le_of_ble_eq_true rfl) ?_
  show GU _ _ _ _ _ _ _ _ _ 0 [(0, .int x0)] []
  refine uu_iload_n dX9_isBlank_0 rfl (List.mem_of_getElem? (i := 0) rfl) ?_
  refine uu_bipush (v := 32) dX9_isBlank_1 (by decide) ?_
  refine uu_icmp_eq (tgt := 12) dX9_isBlank_3 (by decide) (fun c1 => ?_) (fun c1 => ?_)
  · replace h := uu_pos c1 h
    refine uu_iconst (v := 1) dX9_isBlank_12 (by decide) ?_
    refine uu_goto (tgt := 17) dX9_isBlank_13 (by decide) ?_
    have hr := Option.some.inj h
    subst hr
    exact uu_zret (x := bI true) rfl (bI_z _) dX9_isBlank_17
  · replace h := uu_neg c1 h
    refine uu_iload_n dX9_isBlank_6 rfl (List.mem_of_getElem? (i := 0) rfl) ?_
    refine uu_bipush (v := 9) dX9_isBlank_7 (by decide) ?_
    refine uu_icmp_ne (tgt := 16) dX9_isBlank_9 (by decide) (fun c2 => ?_) (fun c2 => ?_)
    · replace h := uu_neg c2 h
      refine uu_iconst (v := 0) dX9_isBlank_16 (by decide) ?_
      have hr := Option.some.inj h
      subst hr
      exact uu_zret (x := bI false) rfl (bI_z _) dX9_isBlank_17
    · replace h := uu_pos c2 h
      refine uu_iconst (v := 1) dX9_isBlank_12 (by decide) ?_
      refine uu_goto (tgt := 17) dX9_isBlank_13 (by decide) ?_
      have hr := Option.some.inj h
      subst hr
      exact uu_zret (x := bI true) rfl (bI_z _) dX9_isBlank_17
abbrev mX2_linesOfText : hM := (yX2_linesOfText, cX2_linesOfText, 2, (some (.int)))
theorem dX2_linesOfText_81 : decode cX2_linesOfText 81 = .ok (.aload_n 0, 1) := by decide +kernel
theorem dX2_linesOfText_82 : decode cX2_linesOfText 82 = .ok (.iload_n 1, 1) := by decide +kernel
theorem dX2_linesOfText_83 : decode cX2_linesOfText 83 = .ok (.invokevirtual 88, 3) := by decide +kernel
theorem dX2_linesOfText_86 : decode cX2_linesOfText 86 = .ok (.bipush 10, 2) := by decide +kernel
theorem dX2_linesOfText_88 : decode cX2_linesOfText 88 = .ok (.if_icmp .ne 9, 3) := by decide +kernel
theorem dX2_linesOfText_97 : decode cX2_linesOfText 97 = .ok (.iconst (-1), 1) := by decide +kernel
theorem dX2_linesOfText_98 : decode cX2_linesOfText 98 = .ok (.ireturn, 1) := by decide +kernel
theorem dX2_linesOfText_91 : decode cX2_linesOfText 91 = .ok (.iload_n 1, 1) := by decide +kernel
theorem dX2_linesOfText_92 : decode cX2_linesOfText 92 = .ok (.iconst 1, 1) := by decide +kernel
theorem dX2_linesOfText_93 : decode cX2_linesOfText 93 = .ok (.iadd, 1) := by decide +kernel
theorem dX2_linesOfText_94 : decode cX2_linesOfText 94 = .ok (.goto 4, 3) := by decide +kernel
theorem dX2_linesOfText_68 : decode cX2_linesOfText 68 = .ok (.aload_n 0, 1) := by decide +kernel
theorem dX2_linesOfText_69 : decode cX2_linesOfText 69 = .ok (.iload_n 1, 1) := by decide +kernel
theorem dX2_linesOfText_70 : decode cX2_linesOfText 70 = .ok (.invokevirtual 88, 3) := by decide +kernel
theorem dX2_linesOfText_73 : decode cX2_linesOfText 73 = .ok (.bipush 13, 2) := by decide +kernel
theorem dX2_linesOfText_75 : decode cX2_linesOfText 75 = .ok (.if_icmp .ne 6, 3) := by decide +kernel
theorem dX2_linesOfText_78 : decode cX2_linesOfText 78 = .ok (.iinc 1 1, 3) := by decide +kernel
theorem dX2_linesOfText_42 : decode cX2_linesOfText 42 = .ok (.iload_n 1, 1) := by decide +kernel
theorem dX2_linesOfText_43 : decode cX2_linesOfText 43 = .ok (.aload_n 0, 1) := by decide +kernel
theorem dX2_linesOfText_44 : decode cX2_linesOfText 44 = .ok (.getfield 29, 3) := by decide +kernel
theorem dX2_linesOfText_47 : decode cX2_linesOfText 47 = .ok (.if_icmp .ge 21, 3) := by decide +kernel
theorem dX2_linesOfText_50 : decode cX2_linesOfText 50 = .ok (.aload_n 0, 1) := by decide +kernel
theorem dX2_linesOfText_51 : decode cX2_linesOfText 51 = .ok (.getfield 18, 3) := by decide +kernel
theorem dX2_linesOfText_54 : decode cX2_linesOfText 54 = .ok (.iload_n 1, 1) := by decide +kernel
theorem dX2_linesOfText_55 : decode cX2_linesOfText 55 = .ok (.baload, 1) := by decide +kernel
theorem kX9_isBlank : h_ml mX9_isBlank 1 := ⟨h_t4 132 rfl rfl, h_t1 4 rfl rfl, ⟨by decide, by decide, by decide +kernel⟩, by decide⟩
theorem lX2_131 : Cond.methodLink RX2 131 mX9_isBlank.1 ∈ lw_g := h_t4 229 rfl rfl
theorem sX9_isBlank : Cond.static mX9_isBlank.1 ∈ lw_g := h_t4 131 rfl rfl
theorem dX2_linesOfText_56 : decode cX2_linesOfText 56 = .ok (.invokestatic 131, 3) := by decide +kernel
theorem dX2_linesOfText_59 : decode cX2_linesOfText 59 = .ok (.ifCond .eq 9, 3) := by decide +kernel
theorem dX2_linesOfText_62 : decode cX2_linesOfText 62 = .ok (.iinc 1 1, 3) := by decide +kernel
theorem dX2_linesOfText_65 : decode cX2_linesOfText 65 = .ok (.goto (-23), 3) := by decide +kernel
theorem dX2_linesOfText_0 : decode cX2_linesOfText 0 = .ok (.aload_n 0, 1) := by decide +kernel
theorem dX2_linesOfText_1 : decode cX2_linesOfText 1 = .ok (.aload_n 0, 1) := by decide +kernel
theorem dX2_linesOfText_2 : decode cX2_linesOfText 2 = .ok (.getfield 26, 3) := by decide +kernel
theorem dX2_linesOfText_5 : decode cX2_linesOfText 5 = .ok (.invokevirtual 88, 3) := by decide +kernel
theorem dX2_linesOfText_8 : decode cX2_linesOfText 8 = .ok (.bipush 58, 2) := by decide +kernel
theorem dX2_linesOfText_10 : decode cX2_linesOfText 10 = .ok (.if_icmp .ne 23, 3) := by decide +kernel
theorem dX2_linesOfText_33 : decode cX2_linesOfText 33 = .ok (.iconst (-1), 1) := by decide +kernel
theorem dX2_linesOfText_34 : decode cX2_linesOfText 34 = .ok (.ireturn, 1) := by decide +kernel
theorem dX2_linesOfText_13 : decode cX2_linesOfText 13 = .ok (.ldc 129, 2) := by decide +kernel
theorem dX2_linesOfText_15 : decode cX2_linesOfText 15 = .ok (.aload_n 0, 1) := by decide +kernel
theorem dX2_linesOfText_16 : decode cX2_linesOfText 16 = .ok (.getfield 18, 3) := by decide +kernel
theorem dX2_linesOfText_19 : decode cX2_linesOfText 19 = .ok (.aload_n 0, 1) := by decide +kernel
theorem dX2_linesOfText_20 : decode cX2_linesOfText 20 = .ok (.getfield 35, 3) := by decide +kernel
theorem dX2_linesOfText_23 : decode cX2_linesOfText 23 = .ok (.aload_n 0, 1) := by decide +kernel
theorem dX2_linesOfText_24 : decode cX2_linesOfText 24 = .ok (.getfield 26, 3) := by decide +kernel
theorem dX2_linesOfText_27 : decode cX2_linesOfText 27 = .ok (.invokestatic 38, 3) := by decide +kernel
theorem dX2_linesOfText_30 : decode cX2_linesOfText 30 = .ok (.ifCond .eq 5, 3) := by decide +kernel
theorem dX2_linesOfText_35 : decode cX2_linesOfText 35 = .ok (.aload_n 0, 1) := by decide +kernel
theorem dX2_linesOfText_36 : decode cX2_linesOfText 36 = .ok (.getfield 26, 3) := by decide +kernel
theorem dX2_linesOfText_39 : decode cX2_linesOfText 39 = .ok (.iconst 1, 1) := by decide +kernel
theorem dX2_linesOfText_40 : decode cX2_linesOfText 40 = .ok (.iadd, 1) := by decide +kernel
theorem dX2_linesOfText_41 : decode cX2_linesOfText 41 = .ok (.istore_n 1, 1) := by decide +kernel
def fb_X2_linesOfText_81  (x1 : Int32) (s : uS) : Option Int32 := (fn_X2_byteAt x1 s).bind fun v1 => if v1 = 10 then (some (x1 + 1)) else (some (-1 : Int32))
set_option maxRecDepth 100000 in
set_option maxHeartbeats 4000000 in
theorem xb_X2_linesOfText_81 {l : Launch} {D : va_G} {A : Nat → ClassId} {B : Nat} {Z : State → Heap → Prop} {vF : Value} (uk : uK B Z vF)   {x1 : Int32} {s : uS} {r : Int32}  (h : fb_X2_linesOfText_81  x1 s = some r) : GU l D A B Z mX2_linesOfText 5 (s, some (.int r)) s 81 [(0, .ref (B + 7)), (1, .int x1)] [] := by
  unfold fb_X2_linesOfText_81 at h
  refine uu_aload_n dX2_linesOfText_81 rfl (List.mem_of_getElem? (i := 0) rfl) ?_
  refine uu_iload_n dX2_linesOfText_82 rfl (List.mem_of_getElem? (i := 1) rfl) ?_
  obtain ⟨v1, e2, h⟩ := uu_ob h
  refine uu_cv (d1 := 0) (k := 7) (ci := 2) (T := TX2) (N := 9) (As := [.int x1]) (st := []) (st' := [.int v1]) (xc_X2_byteAt uk  e2) so_7.is (by decide) rfl kX2_byteAt lX2_88 sX2_byteAt (by decide) (Nat.le_of_ble_eq_true rfl) dX2_linesOfText_83 rfl ?_
  refine uu_bipush (v := 10) dX2_linesOfText_86 (by decide) ?_
  refine uu_icmp_ne (tgt := 97) dX2_linesOfText_88 (by decide) (fun c3 => ?_) (fun c3 => ?_)
  · replace h := uu_neg c3 h
    refine uu_iconst (v := -1) dX2_linesOfText_97 (by decide) ?_
    have hr := Option.some.inj h
    subst hr
    exact uu_iret rfl dX2_linesOfText_98
  · replace h := uu_pos c3 h
    refine uu_iload_n dX2_linesOfText_91 rfl (List.mem_of_getElem? (i := 1) rfl) ?_
    refine uu_iconst (v := 1) dX2_linesOfText_92 (by decide) ?_
    refine uu_iadd dX2_linesOfText_93 ?_
    refine uu_goto (tgt := 98) dX2_linesOfText_94 (by decide) ?_
    have hr := Option.some.inj h
    subst hr
    exact uu_iret rfl dX2_linesOfText_98
def fb_X2_linesOfText_68  (x1 : Int32) (s : uS) : Option Int32 := (fn_X2_byteAt x1 s).bind fun v1 => if v1 = 13 then (fb_X2_linesOfText_81 (x1 + 1) s) else (fb_X2_linesOfText_81 x1 s)
set_option maxRecDepth 100000 in
set_option maxHeartbeats 4000000 in
theorem xb_X2_linesOfText_68 {l : Launch} {D : va_G} {A : Nat → ClassId} {B : Nat} {Z : State → Heap → Prop} {vF : Value} (uk : uK B Z vF)   {x1 : Int32} {s : uS} {r : Int32}  (h : fb_X2_linesOfText_68  x1 s = some r) : GU l D A B Z mX2_linesOfText 5 (s, some (.int r)) s 68 [(0, .ref (B + 7)), (1, .int x1)] [] := by
  unfold fb_X2_linesOfText_68 at h
  refine uu_aload_n dX2_linesOfText_68 rfl (List.mem_of_getElem? (i := 0) rfl) ?_
  refine uu_iload_n dX2_linesOfText_69 rfl (List.mem_of_getElem? (i := 1) rfl) ?_
  obtain ⟨v1, e2, h⟩ := uu_ob h
  refine uu_cv (d1 := 0) (k := 7) (ci := 2) (T := TX2) (N := 9) (As := [.int x1]) (st := []) (st' := [.int v1]) (xc_X2_byteAt uk  e2) so_7.is (by decide) rfl kX2_byteAt lX2_88 sX2_byteAt (by decide) (Nat.le_of_ble_eq_true rfl) dX2_linesOfText_70 rfl ?_
  refine uu_bipush (v := 13) dX2_linesOfText_73 (by decide) ?_
  refine uu_icmp_ne (tgt := 81) dX2_linesOfText_75 (by decide) (fun c3 => ?_) (fun c3 => ?_)
  · replace h := uu_neg c3 h
    exact xb_X2_linesOfText_81 uk  h
  · replace h := uu_pos c3 h
    refine uu_iinc (v := x1 + 1) dX2_linesOfText_78 (k := 1) rfl rfl (by decide) rfl ?_
    refine uu_lv [1, 0] (lv' := [(0, .ref (B + 7)), (1, .int (x1 + 1))]) rfl ?_
    exact xb_X2_linesOfText_81 uk  h
def fb_X2_linesOfText_42 (K42 : Int32 → uS → Option Int32) (x1 : Int32) (s : uS) : Option Int32 := if (s.I 7 5) ≤ x1 then (fb_X2_linesOfText_68 x1 s) else ((s.R 7 1).bind fun j2 => (iget 21 s j2 x1).bind fun v4 => (fn_X9_isBlank v4 s).bind fun v6 => if v6 = true then (K42 (x1 + 1) s) else (fb_X2_linesOfText_68 x1 s))
set_option maxRecDepth 100000 in
set_option maxHeartbeats 4000000 in
theorem xb_X2_linesOfText_42 {l : Launch} {D : va_G} {A : Nat → ClassId} {B : Nat} {Z : State → Heap → Prop} {vF : Value} (uk : uK B Z vF) {K42 : Int32 → uS → Option Int32} (hK42 : ∀ (x1 : Int32)  (s : uS) (r : Int32), K42 x1 s = some r → GU l D A B Z mX2_linesOfText 5 (s, some (.int r)) s 42 [(0, .ref (B + 7)), (1, .int x1)] []) {x1 : Int32} {s : uS} {r : Int32}  (h : fb_X2_linesOfText_42 K42 x1 s = some r) : GU l D A B Z mX2_linesOfText 5 (s, some (.int r)) s 42 [(0, .ref (B + 7)), (1, .int x1)] [] := by
  unfold fb_X2_linesOfText_42 at h
  refine uu_iload_n dX2_linesOfText_42 rfl (List.mem_of_getElem? (i := 1) rfl) ?_
  refine uu_aload_n dX2_linesOfText_43 rfl (List.mem_of_getElem? (i := 0) rfl) ?_
  refine uu_geti (ci := 2) (N := 9) fX2_29 (by decide) so_7.is (by decide) (by decide) dX2_linesOfText_44 ?_
  refine uu_icmp_ge (tgt := 68) dX2_linesOfText_47 (by decide) (fun c1 => ?_) (fun c1 => ?_)
  · replace h := uu_pos c1 h
    exact xb_X2_linesOfText_68 uk  h
  · replace h := uu_neg c1 h
    refine uu_aload_n dX2_linesOfText_50 rfl (List.mem_of_getElem? (i := 0) rfl) ?_
    obtain ⟨j2, e3, h⟩ := uu_ob h
    refine uu_getr (ci := 2) (N := 9) fX2_18 (by decide) so_7.is (by decide) (by decide) e3 dX2_linesOfText_51 ?_
    refine uu_iload_n dX2_linesOfText_54 rfl (List.mem_of_getElem? (i := 1) rfl) ?_
    obtain ⟨v4, e5, h⟩ := uu_ob h
    refine uu_bald e5 dX2_linesOfText_55 ?_
    obtain ⟨v6, e7, h⟩ := uu_ob h
    refine uu_cs (d1 := 0) (As := [.int v4]) (st := []) (st' := [.int (bI v6)]) (xc_X9_isBlank uk  e7) kX9_isBlank lX2_131 sX9_isBlank (by decide) (Nat.le_of_ble_eq_true rfl) dX2_linesOfText_56 rfl ?_
    refine uu_ifb_eq (tgt := 68) dX2_linesOfText_59 (by decide) (fun c8 => ?_) (fun c8 => ?_)
    · replace h := uu_neg c8 h
      exact xb_X2_linesOfText_68 uk  h
    · replace h := uu_pos c8 h
      refine uu_iinc (v := x1 + 1) dX2_linesOfText_62 (k := 1) rfl rfl (by decide) rfl ?_
      refine uu_goto (tgt := 42) dX2_linesOfText_65 (by decide) ?_
      refine uu_lv [1, 0] (lv' := [(0, .ref (B + 7)), (1, .int (x1 + 1))]) rfl ?_
      exact hK42 (x1 + 1) _ _ h
def fn_X2_linesOfText_42  : Nat → Int32 → uS → Option Int32
  | 0 => fun _ _ => none
  | n + 1 => fb_X2_linesOfText_42 (fn_X2_linesOfText_42  n)
set_option maxRecDepth 100000 in
set_option maxHeartbeats 4000000 in
theorem xn_X2_linesOfText_42 {l : Launch} {D : va_G} {A : Nat → ClassId} {B : Nat} {Z : State → Heap → Prop} {vF : Value} (uk : uK B Z vF)   : ∀ (n : Nat) (x1 : Int32)  (s : uS) (r : Int32), fn_X2_linesOfText_42  n x1 s = some r → GU l D A B Z mX2_linesOfText 5 (s, some (.int r)) s 42 [(0, .ref (B + 7)), (1, .int x1)] [] := by
  intro n
  induction n with
  | zero => intro x1 s r h
            cases h
  | succ n ih => intro x1 s r h
                 exact xb_X2_linesOfText_42 uk ih  h
def fn_X2_linesOfText  (s : uS) : Option Int32 := (fn_X2_byteAt (s.I 7 8) s).bind fun v1 => if v1 = 58 then ((s.R 7 1).bind fun j5 => (fn_X9_place kW_35 j5 (s.I 7 7) (s.I 7 8) s).bind fun v7 => if v7 = 0 then (fn_X2_linesOfText_42 uFu ((s.I 7 8) + 1) s) else (some (-1 : Int32))) else (some (-1 : Int32))
set_option maxRecDepth 100000 in
set_option maxHeartbeats 4000000 in
theorem xc_X2_linesOfText {l : Launch} {D : va_G} {A : Nat → ClassId} {B : Nat} {Z : State → Heap → Prop} {vF : Value} (uk : uK B Z vF)  {s : uS} {r : Int32}  (h : fn_X2_linesOfText  s = some r) : CU l D A B Z 5 mX2_linesOfText s [.ref (B + 7)] (s, some (.int r)) := by
  unfold fn_X2_linesOfText at h
  refine cu_of rfl uk.1.1 (Nat.le_of_ble_eq_true rfl) ?_
  show GU _ _ _ _ _ _ _ _ _ 0 [(0, .ref (B + 7))] []
  refine uu_aload_n dX2_linesOfText_0 rfl (List.mem_of_getElem? (i := 0) rfl) ?_
  refine uu_aload_n dX2_linesOfText_1 rfl (List.mem_of_getElem? (i := 0) rfl) ?_
  refine uu_geti (ci := 2) (N := 9) fX2_26 (by decide) so_7.is (by decide) (by decide) dX2_linesOfText_2 ?_
  obtain ⟨v1, e2, h⟩ := uu_ob h
  refine uu_cv (d1 := 0) (k := 7) (ci := 2) (T := TX2) (N := 9) (As := [.int (s.I 7 8)]) (st := []) (st' := [.int v1]) (xc_X2_byteAt uk  e2) so_7.is (by decide) rfl kX2_byteAt lX2_88 sX2_byteAt (by decide) (Nat.le_of_ble_eq_true rfl) dX2_linesOfText_5 rfl ?_
  refine uu_bipush (v := 58) dX2_linesOfText_8 (by decide) ?_
  refine uu_icmp_ne (tgt := 33) dX2_linesOfText_10 (by decide) (fun c3 => ?_) (fun c3 => ?_)
  · replace h := uu_neg c3 h
    refine uu_iconst (v := -1) dX2_linesOfText_33 (by decide) ?_
    have hr := Option.some.inj h
    subst hr
    exact uu_iret rfl dX2_linesOfText_34
  · replace h := uu_pos c3 h
    obtain ⟨cq4, cp4, cv4, cw4⟩ := uk.2.1 35 _ rfl
    refine uu_ldcS cv4 dX2_linesOfText_13 ?_
    refine uu_aload_n dX2_linesOfText_15 rfl (List.mem_of_getElem? (i := 0) rfl) ?_
    obtain ⟨j5, e6, h⟩ := uu_ob h
    refine uu_getr (ci := 2) (N := 9) fX2_18 (by decide) so_7.is (by decide) (by decide) e6 dX2_linesOfText_16 ?_
    refine uu_aload_n dX2_linesOfText_19 rfl (List.mem_of_getElem? (i := 0) rfl) ?_
    refine uu_geti (ci := 2) (N := 9) fX2_35 (by decide) so_7.is (by decide) (by decide) dX2_linesOfText_20 ?_
    refine uu_aload_n dX2_linesOfText_23 rfl (List.mem_of_getElem? (i := 0) rfl) ?_
    refine uu_geti (ci := 2) (N := 9) fX2_26 (by decide) so_7.is (by decide) (by decide) dX2_linesOfText_24 ?_
    obtain ⟨v7, e8, h⟩ := uu_ob h
    refine uu_cs (d1 := 4) (As := [.ref cq4, .ref (B + j5), .int (s.I 7 7), .int (s.I 7 8)]) (st := []) (st' := [.int v7]) (xc_X9_place uk cw4 e8) kX9_place lX2_38 sX9_place (by decide) (Nat.le_of_ble_eq_true rfl) dX2_linesOfText_27 rfl ?_
    refine uu_if_eq (tgt := 35) dX2_linesOfText_30 (by decide) (fun c9 => ?_) (fun c9 => ?_)
    · replace h := uu_pos c9 h
      refine uu_aload_n dX2_linesOfText_35 rfl (List.mem_of_getElem? (i := 0) rfl) ?_
      refine uu_geti (ci := 2) (N := 9) fX2_26 (by decide) so_7.is (by decide) (by decide) dX2_linesOfText_36 ?_
      refine uu_iconst (v := 1) dX2_linesOfText_39 (by decide) ?_
      refine uu_iadd dX2_linesOfText_40 ?_
      refine uu_istore_n dX2_linesOfText_41 rfl (by decide) rfl ?_
      refine uu_lv [1, 0] (lv' := [(0, .ref (B + 7)), (1, .int ((s.I 7 8) + 1))]) rfl ?_
      exact xn_X2_linesOfText_42 uk  _ _ _ _ h
    · replace h := uu_neg c9 h
      refine uu_iconst (v := -1) dX2_linesOfText_33 (by decide) ?_
      have hr := Option.some.inj h
      subst hr
      exact uu_iret rfl dX2_linesOfText_34
def fn_X9_close (k0 : Nat) (s : uS) : Option uS := (ulen s (k0 + 2)).bind fun v1 => if v1 ≤ (s.I k0 3) then (some (wI s k0 4 (s.I k0 5))) else ((iput 20 s (k0 + 2) (s.I k0 3) (s.I k0 4)).bind fun s4 => (iput 20 s4 (k0 + 3) (s4.I k0 3) (s4.I k0 5)).bind fun s6 => some (wI (wI s6 k0 3 ((s6.I k0 3) + 1)) k0 4 ((wI s6 k0 3 ((s6.I k0 3) + 1)).I k0 5)))
set_option maxRecDepth 100000 in
set_option maxHeartbeats 4000000 in
theorem xc_X9_close {l : Launch} {D : va_G} {A : Nat → ClassId} {B : Nat} {Z : State → Heap → Prop} {vF : Value} (uk : uK B Z vF) {k0 : Nat} {s : uS} {r : uS} (hk0 : uSo k0 9) (h : fn_X9_close k0 s = some r) : CU l D A B Z 0 mX9_close s [.ref (B + k0)] (r, none) := by
  unfold fn_X9_close at h
  refine cu_of rfl uk.1.1 (Nat.le_of_ble_eq_true rfl) ?_
  show GU _ _ _ _ _ _ _ _ _ 0 [(0, .ref (B + k0))] []
  refine uu_aload_n dX9_close_0 rfl (List.mem_of_getElem? (i := 0) rfl) ?_
  refine uu_geti (ci := 9) (N := 6) fX9_20 (by decide) hk0.is (by decide) (by decide) dX9_close_1 ?_
  refine uu_aload_n dX9_close_4 rfl (List.mem_of_getElem? (i := 0) rfl) ?_
  refine uu_getc (ci := 9) (N := 6) fX9_13 (by decide) hk0.is (by decide) (c := 2) (by decide) (k2 := k0 + 2) rfl dX9_close_5 ?_
  obtain ⟨v1, e2, h⟩ := uu_ob h
  refine uu_alen e2 dX9_close_8 ?_
  refine uu_icmp_ge (tgt := 48) dX9_close_9 (by decide) (fun c3 => ?_) (fun c3 => ?_)
  · replace h := uu_pos c3 h
    refine uu_aload_n dX9_close_48 rfl (List.mem_of_getElem? (i := 0) rfl) ?_
    refine uu_aload_n dX9_close_49 rfl (List.mem_of_getElem? (i := 0) rfl) ?_
    refine uu_geti (ci := 9) (N := 6) fX9_27 (by decide) hk0.is (by decide) (by decide) dX9_close_50 ?_
    refine uu_puti (ft := .int) (ci := 9) (N := 6) fX9_24 ptX9 (Or.inl rfl) (by decide) hk0.is (by decide) (by decide) (by decide +kernel) rfl rfl dX9_close_53 ?_
    have hr := Option.some.inj h
    subst hr
    exact uu_vret rfl dX9_close_56
  · replace h := uu_neg c3 h
    refine uu_aload_n dX9_close_12 rfl (List.mem_of_getElem? (i := 0) rfl) ?_
    refine uu_getc (ci := 9) (N := 6) fX9_13 (by decide) hk0.is (by decide) (c := 2) (by decide) (k2 := k0 + 2) rfl dX9_close_13 ?_
    refine uu_aload_n dX9_close_16 rfl (List.mem_of_getElem? (i := 0) rfl) ?_
    refine uu_geti (ci := 9) (N := 6) fX9_20 (by decide) hk0.is (by decide) (by decide) dX9_close_17 ?_
    refine uu_aload_n dX9_close_20 rfl (List.mem_of_getElem? (i := 0) rfl) ?_
    refine uu_geti (ci := 9) (N := 6) fX9_24 (by decide) hk0.is (by decide) (by decide) dX9_close_21 ?_
    obtain ⟨s4, e5, h⟩ := uu_ob h
    refine uu_iast e5 dX9_close_24 ?_
    refine uu_aload_n dX9_close_25 rfl (List.mem_of_getElem? (i := 0) rfl) ?_
    refine uu_getc (ci := 9) (N := 6) fX9_17 (by decide) hk0.is (by decide) (c := 3) (by decide) (k2 := k0 + 3) rfl dX9_close_26 ?_
    refine uu_aload_n dX9_close_29 rfl (List.mem_of_getElem? (i := 0) rfl) ?_
    refine uu_geti (ci := 9) (N := 6) fX9_20 (by decide) hk0.is (by decide) (by decide) dX9_close_30 ?_
    refine uu_aload_n dX9_close_33 rfl (List.mem_of_getElem? (i := 0) rfl) ?_
    refine uu_geti (ci := 9) (N := 6) fX9_27 (by decide) hk0.is (by decide) (by decide) dX9_close_34 ?_
    obtain ⟨s6, e7, h⟩ := uu_ob h
    refine uu_iast e7 dX9_close_37 ?_
    refine uu_aload_n dX9_close_38 rfl (List.mem_of_getElem? (i := 0) rfl) ?_
    refine uu_dup dX9_close_39 rfl ?_
    refine uu_geti (ci := 9) (N := 6) fX9_20 (by decide) hk0.is (by decide) (by decide) dX9_close_40 ?_
    refine uu_iconst (v := 1) dX9_close_43 (by decide) ?_
    refine uu_iadd dX9_close_44 ?_
    refine uu_puti (ft := .int) (ci := 9) (N := 6) fX9_20 ptX9 (Or.inl rfl) (by decide) hk0.is (by decide) (by decide) (by decide +kernel) rfl rfl dX9_close_45 ?_
    refine uu_aload_n dX9_close_48 rfl (List.mem_of_getElem? (i := 0) rfl) ?_
    refine uu_aload_n dX9_close_49 rfl (List.mem_of_getElem? (i := 0) rfl) ?_
    refine uu_geti (ci := 9) (N := 6) fX9_27 (by decide) hk0.is (by decide) (by decide) dX9_close_50 ?_
    refine uu_puti (ft := .int) (ci := 9) (N := 6) fX9_24 ptX9 (Or.inl rfl) (by decide) hk0.is (by decide) (by decide) (by decide +kernel) rfl rfl dX9_close_53 ?_
    have hr := Option.some.inj h
    subst hr
    exact uu_vret rfl dX9_close_56
abbrev mX2_readNumber : hM := (yX2_readNumber, cX2_readNumber, 6, none)
theorem dX2_readNumber_186 : decode cX2_readNumber 186 = .ok (.bipush 6, 2) := by decide +kernel
theorem dX2_readNumber_188 : decode cX2_readNumber 188 = .ok (.putfield 42, 3) := by decide +kernel
theorem dX2_readNumber_191 : decode cX2_readNumber 191 = .ok (.aload_n 0, 1) := by decide +kernel
theorem dX2_readNumber_192 : decode cX2_readNumber 192 = .ok (.lload_n 1, 1) := by decide +kernel
theorem dX2_readNumber_193 : decode cX2_readNumber 193 = .ok (.l2i, 1) := by decide +kernel
theorem fX2_114 : h_fl RX2 114 2 3 RX2 TX2 9 := ⟨rfl, by decide, inX2, h_t1 118 rfl rfl⟩
theorem dX2_readNumber_194 : decode cX2_readNumber 194 = .ok (.putfield 114, 3) := by decide +kernel
theorem dX2_readNumber_197 : decode cX2_readNumber 197 = .ok (.return_, 1) := by decide +kernel
theorem dX2_readNumber_166 : decode cX2_readNumber 166 = .ok (.istore 5, 2) := by decide +kernel
theorem dX2_readNumber_168 : decode cX2_readNumber 168 = .ok (.aload_n 0, 1) := by decide +kernel
theorem dX2_readNumber_169 : decode cX2_readNumber 169 = .ok (.iload 5, 2) := by decide +kernel
theorem dX2_readNumber_171 : decode cX2_readNumber 171 = .ok (.ifCond .eq 15, 3) := by decide +kernel
theorem dX2_readNumber_174 : decode cX2_readNumber 174 = .ok (.lload_n 1, 1) := by decide +kernel
theorem cX2_112 : Cond.constantLong RX2 112 (2147483647) ∈ lw_g := h_t5 7 rfl rfl
theorem dX2_readNumber_175 : decode cX2_readNumber 175 = .ok (.ldc2_w 112, 3) := by decide +kernel
theorem dX2_readNumber_178 : decode cX2_readNumber 178 = .ok (.lcmp, 1) := by decide +kernel
theorem dX2_readNumber_179 : decode cX2_readNumber 179 = .ok (.ifCond .gt 7, 3) := by decide +kernel
theorem dX2_readNumber_182 : decode cX2_readNumber 182 = .ok (.iconst 2, 1) := by decide +kernel
theorem dX2_readNumber_183 : decode cX2_readNumber 183 = .ok (.goto 5, 3) := by decide +kernel
theorem dX2_readNumber_136 : decode cX2_readNumber 136 = .ok (.aload_n 0, 1) := by decide +kernel
theorem dX2_readNumber_137 : decode cX2_readNumber 137 = .ok (.aload_n 0, 1) := by decide +kernel
theorem dX2_readNumber_138 : decode cX2_readNumber 138 = .ok (.getfield 26, 3) := by decide +kernel
theorem dX2_readNumber_141 : decode cX2_readNumber 141 = .ok (.invokevirtual 52, 3) := by decide +kernel
theorem dX2_readNumber_144 : decode cX2_readNumber 144 = .ok (.ifCond .ne 21, 3) := by decide +kernel
theorem dX2_readNumber_165 : decode cX2_readNumber 165 = .ok (.iconst 0, 1) := by decide +kernel
theorem dX2_readNumber_147 : decode cX2_readNumber 147 = .ok (.aload_n 0, 1) := by decide +kernel
theorem dX2_readNumber_148 : decode cX2_readNumber 148 = .ok (.aload_n 0, 1) := by decide +kernel
theorem dX2_readNumber_149 : decode cX2_readNumber 149 = .ok (.getfield 26, 3) := by decide +kernel
theorem dX2_readNumber_152 : decode cX2_readNumber 152 = .ok (.invokevirtual 88, 3) := by decide +kernel
theorem dX2_readNumber_155 : decode cX2_readNumber 155 = .ok (.invokestatic 67, 3) := by decide +kernel
theorem dX2_readNumber_158 : decode cX2_readNumber 158 = .ok (.ifCond .ne 7, 3) := by decide +kernel
theorem dX2_readNumber_161 : decode cX2_readNumber 161 = .ok (.iconst 1, 1) := by decide +kernel
theorem dX2_readNumber_162 : decode cX2_readNumber 162 = .ok (.goto 4, 3) := by decide +kernel
theorem dX2_readNumber_114 : decode cX2_readNumber 114 = .ok (.istore 4, 2) := by decide +kernel
theorem dX2_readNumber_116 : decode cX2_readNumber 116 = .ok (.iload 4, 2) := by decide +kernel
theorem dX2_readNumber_118 : decode cX2_readNumber 118 = .ok (.ifCond .le 18, 3) := by decide +kernel
theorem dX2_readNumber_121 : decode cX2_readNumber 121 = .ok (.lload_n 1, 1) := by decide +kernel
theorem dX2_readNumber_122 : decode cX2_readNumber 122 = .ok (.iload 4, 2) := by decide +kernel
theorem dX2_readNumber_124 : decode cX2_readNumber 124 = .ok (.lshl, 1) := by decide +kernel
theorem dX2_readNumber_125 : decode cX2_readNumber 125 = .ok (.lstore_n 1, 1) := by decide +kernel
theorem dX2_readNumber_126 : decode cX2_readNumber 126 = .ok (.aload_n 0, 1) := by decide +kernel
theorem dX2_readNumber_127 : decode cX2_readNumber 127 = .ok (.dup, 1) := by decide +kernel
theorem dX2_readNumber_128 : decode cX2_readNumber 128 = .ok (.getfield 26, 3) := by decide +kernel
theorem dX2_readNumber_131 : decode cX2_readNumber 131 = .ok (.iconst 1, 1) := by decide +kernel
theorem dX2_readNumber_132 : decode cX2_readNumber 132 = .ok (.iadd, 1) := by decide +kernel
theorem dX2_readNumber_133 : decode cX2_readNumber 133 = .ok (.putfield 26, 3) := by decide +kernel
theorem dX2_readNumber_68 : decode cX2_readNumber 68 = .ok (.aload_n 0, 1) := by decide +kernel
theorem dX2_readNumber_69 : decode cX2_readNumber 69 = .ok (.aload_n 0, 1) := by decide +kernel
theorem dX2_readNumber_70 : decode cX2_readNumber 70 = .ok (.getfield 26, 3) := by decide +kernel
theorem dX2_readNumber_73 : decode cX2_readNumber 73 = .ok (.invokevirtual 88, 3) := by decide +kernel
theorem lX2_109 : Cond.methodLink RX2 109 mX9_upper.1 ∈ lw_g := h_t5 6 rfl rfl
theorem dX2_readNumber_76 : decode cX2_readNumber 76 = .ok (.invokestatic 109, 3) := by decide +kernel
theorem dX2_readNumber_79 : decode cX2_readNumber 79 = .ok (.istore_n 3, 1) := by decide +kernel
theorem dX2_readNumber_80 : decode cX2_readNumber 80 = .ok (.iload_n 3, 1) := by decide +kernel
theorem dX2_readNumber_81 : decode cX2_readNumber 81 = .ok (.bipush 75, 2) := by decide +kernel
theorem dX2_readNumber_83 : decode cX2_readNumber 83 = .ok (.if_icmp .ne 8, 3) := by decide +kernel
theorem dX2_readNumber_91 : decode cX2_readNumber 91 = .ok (.iload_n 3, 1) := by decide +kernel
theorem dX2_readNumber_92 : decode cX2_readNumber 92 = .ok (.bipush 77, 2) := by decide +kernel
theorem dX2_readNumber_94 : decode cX2_readNumber 94 = .ok (.if_icmp .ne 8, 3) := by decide +kernel
theorem dX2_readNumber_102 : decode cX2_readNumber 102 = .ok (.iload_n 3, 1) := by decide +kernel
theorem dX2_readNumber_103 : decode cX2_readNumber 103 = .ok (.bipush 71, 2) := by decide +kernel
theorem dX2_readNumber_105 : decode cX2_readNumber 105 = .ok (.if_icmp .ne 8, 3) := by decide +kernel
theorem dX2_readNumber_113 : decode cX2_readNumber 113 = .ok (.iconst 0, 1) := by decide +kernel
theorem dX2_readNumber_108 : decode cX2_readNumber 108 = .ok (.bipush 30, 2) := by decide +kernel
theorem dX2_readNumber_110 : decode cX2_readNumber 110 = .ok (.goto 4, 3) := by decide +kernel
theorem dX2_readNumber_97 : decode cX2_readNumber 97 = .ok (.bipush 20, 2) := by decide +kernel
theorem dX2_readNumber_99 : decode cX2_readNumber 99 = .ok (.goto 15, 3) := by decide +kernel
theorem dX2_readNumber_86 : decode cX2_readNumber 86 = .ok (.bipush 10, 2) := by decide +kernel
theorem dX2_readNumber_88 : decode cX2_readNumber 88 = .ok (.goto 26, 3) := by decide +kernel
theorem dX2_readNumber_2 : decode cX2_readNumber 2 = .ok (.aload_n 0, 1) := by decide +kernel
theorem dX2_readNumber_3 : decode cX2_readNumber 3 = .ok (.getfield 26, 3) := by decide +kernel
theorem dX2_readNumber_6 : decode cX2_readNumber 6 = .ok (.aload_n 0, 1) := by decide +kernel
theorem dX2_readNumber_7 : decode cX2_readNumber 7 = .ok (.getfield 29, 3) := by decide +kernel
theorem dX2_readNumber_10 : decode cX2_readNumber 10 = .ok (.if_icmp .ge 58, 3) := by decide +kernel
theorem dX2_readNumber_13 : decode cX2_readNumber 13 = .ok (.aload_n 0, 1) := by decide +kernel
theorem dX2_readNumber_14 : decode cX2_readNumber 14 = .ok (.getfield 18, 3) := by decide +kernel
theorem dX2_readNumber_17 : decode cX2_readNumber 17 = .ok (.aload_n 0, 1) := by decide +kernel
theorem dX2_readNumber_18 : decode cX2_readNumber 18 = .ok (.getfield 26, 3) := by decide +kernel
theorem dX2_readNumber_21 : decode cX2_readNumber 21 = .ok (.baload, 1) := by decide +kernel
theorem dX2_readNumber_22 : decode cX2_readNumber 22 = .ok (.invokestatic 67, 3) := by decide +kernel
theorem dX2_readNumber_25 : decode cX2_readNumber 25 = .ok (.ifCond .eq 43, 3) := by decide +kernel
theorem dX2_readNumber_28 : decode cX2_readNumber 28 = .ok (.lload_n 1, 1) := by decide +kernel
theorem cX2_97 : Cond.constantLong RX2 97 (10) ∈ lw_g := h_t5 0 rfl rfl
theorem dX2_readNumber_29 : decode cX2_readNumber 29 = .ok (.ldc2_w 97, 3) := by decide +kernel
theorem dX2_readNumber_32 : decode cX2_readNumber 32 = .ok (.lmul, 1) := by decide +kernel
theorem dX2_readNumber_33 : decode cX2_readNumber 33 = .ok (.aload_n 0, 1) := by decide +kernel
theorem dX2_readNumber_34 : decode cX2_readNumber 34 = .ok (.getfield 18, 3) := by decide +kernel
theorem dX2_readNumber_37 : decode cX2_readNumber 37 = .ok (.aload_n 0, 1) := by decide +kernel
theorem dX2_readNumber_38 : decode cX2_readNumber 38 = .ok (.getfield 26, 3) := by decide +kernel
theorem dX2_readNumber_41 : decode cX2_readNumber 41 = .ok (.baload, 1) := by decide +kernel
theorem dX2_readNumber_42 : decode cX2_readNumber 42 = .ok (.i2l, 1) := by decide +kernel
theorem dX2_readNumber_43 : decode cX2_readNumber 43 = .ok (.ladd, 1) := by decide +kernel
theorem cX2_99 : Cond.constantLong RX2 99 (48) ∈ lw_g := h_t5 1 rfl rfl
theorem dX2_readNumber_44 : decode cX2_readNumber 44 = .ok (.ldc2_w 99, 3) := by decide +kernel
theorem dX2_readNumber_47 : decode cX2_readNumber 47 = .ok (.lsub, 1) := by decide +kernel
theorem cX2_101 : Cond.constantLong RX2 101 (2147483648) ∈ lw_g := h_t5 2 rfl rfl
theorem dX2_readNumber_48 : decode cX2_readNumber 48 = .ok (.ldc2_w 101, 3) := by decide +kernel
theorem lmX2_103 : Cond.methodLink RX2 103 Lib.MathLoose.min_long.x ∈ lw_g := h_t5 3 rfl rfl
theorem dX2_readNumber_51 : decode cX2_readNumber 51 = .ok (.invokestatic 103, 3) := by decide +kernel
theorem dX2_readNumber_54 : decode cX2_readNumber 54 = .ok (.lstore_n 1, 1) := by decide +kernel
theorem dX2_readNumber_55 : decode cX2_readNumber 55 = .ok (.aload_n 0, 1) := by decide +kernel
theorem dX2_readNumber_56 : decode cX2_readNumber 56 = .ok (.dup, 1) := by decide +kernel
theorem dX2_readNumber_57 : decode cX2_readNumber 57 = .ok (.getfield 26, 3) := by decide +kernel
theorem dX2_readNumber_60 : decode cX2_readNumber 60 = .ok (.iconst 1, 1) := by decide +kernel
theorem dX2_readNumber_61 : decode cX2_readNumber 61 = .ok (.iadd, 1) := by decide +kernel
theorem dX2_readNumber_62 : decode cX2_readNumber 62 = .ok (.putfield 26, 3) := by decide +kernel
theorem dX2_readNumber_65 : decode cX2_readNumber 65 = .ok (.goto (-63), 3) := by decide +kernel
theorem dX2_readNumber_0 : decode cX2_readNumber 0 = .ok (.lconst 0, 1) := by decide +kernel
theorem dX2_readNumber_1 : decode cX2_readNumber 1 = .ok (.lstore_n 1, 1) := by decide +kernel
def fb_X2_readNumber_186  (l1 : Int64) (s : uS) : Option uS := some (wI (wI s 7 2 6) 7 3 l1.toInt32)
set_option maxRecDepth 100000 in
set_option maxHeartbeats 4000000 in
theorem xb_X2_readNumber_186 {l : Launch} {D : va_G} {A : Nat → ClassId} {B : Nat} {Z : State → Heap → Prop} {vF : Value} (uk : uK B Z vF)   {l1 : Int64} {s : uS} {r : uS}  (h : fb_X2_readNumber_186  l1 s = some r) : GU l D A B Z mX2_readNumber 2 (r, none) s 186 [(0, .ref (B + 7)), (1, .long l1)] [.ref (B + 7)] := by
  unfold fb_X2_readNumber_186 at h
  refine uu_bipush (v := 6) dX2_readNumber_186 (by decide) ?_
  refine uu_puti (ft := .int) (ci := 2) (N := 9) fX2_42 ptX2 (Or.inl rfl) (by decide) so_7.is (by decide) (by decide) (by decide +kernel) rfl rfl dX2_readNumber_188 ?_
  refine uu_aload_n dX2_readNumber_191 rfl (List.mem_of_getElem? (i := 0) rfl) ?_
  refine uu_lload_n dX2_readNumber_192 rfl (List.mem_of_getElem? (i := 1) rfl) ?_
  refine uu_l2i dX2_readNumber_193 rfl ?_
  refine uu_puti (ft := .int) (ci := 2) (N := 9) fX2_114 ptX2 (Or.inl rfl) (by decide) so_7.is (by decide) (by decide) (by decide +kernel) rfl rfl dX2_readNumber_194 ?_
  have hr := Option.some.inj h
  subst hr
  exact uu_vret rfl dX2_readNumber_197
def fb_X2_readNumber_166  (l1 : Int64) (bs0 : Bool) (s : uS) : Option uS := if bs0 = true then (if 0 < (lg_cmp l1 2147483647) then (fb_X2_readNumber_186 l1 s) else (some (wI (wI s 7 2 2) 7 3 l1.toInt32))) else (fb_X2_readNumber_186 l1 s)
set_option maxRecDepth 100000 in
set_option maxHeartbeats 4000000 in
theorem xb_X2_readNumber_166 {l : Launch} {D : va_G} {A : Nat → ClassId} {B : Nat} {Z : State → Heap → Prop} {vF : Value} (uk : uK B Z vF)   {l1 : Int64} {bs0 : Bool} {s : uS} {r : uS}  (h : fb_X2_readNumber_166  l1 bs0 s = some r) : GU l D A B Z mX2_readNumber 2 (r, none) s 166 [(0, .ref (B + 7)), (1, .long l1)] [.int (bI bs0)] := by
  unfold fb_X2_readNumber_166 at h
  refine uu_istore dX2_readNumber_166 (by decide) rfl ?_
  refine uu_aload_n dX2_readNumber_168 rfl (List.mem_of_getElem? (i := 1) rfl) ?_
  refine uu_iload dX2_readNumber_169 (List.mem_of_getElem? (i := 0) rfl) ?_
  refine uu_ifb_eq (tgt := 186) dX2_readNumber_171 (by decide) (fun c1 => ?_) (fun c1 => ?_)
  · replace h := uu_neg c1 h
    refine uu_lv [1, 2] (lv' := [(0, .ref (B + 7)), (1, .long l1)]) rfl ?_
    exact xb_X2_readNumber_186 uk  h
  · replace h := uu_pos c1 h
    refine uu_lload_n dX2_readNumber_174 rfl (List.mem_of_getElem? (i := 2) rfl) ?_
    refine uu_ldc2 (v := 2147483647) cX2_112 dX2_readNumber_175 ?_
    refine uu_lcmp dX2_readNumber_178 ?_
    refine uu_if_gt (tgt := 186) dX2_readNumber_179 (by decide) (fun c2 => ?_) (fun c2 => ?_)
    · replace h := uu_pos c2 h
      refine uu_lv [1, 2] (lv' := [(0, .ref (B + 7)), (1, .long l1)]) rfl ?_
      exact xb_X2_readNumber_186 uk  h
    · replace h := uu_neg c2 h
      refine uu_iconst (v := 2) dX2_readNumber_182 (by decide) ?_
      refine uu_goto (tgt := 188) dX2_readNumber_183 (by decide) ?_
      refine uu_puti (ft := .int) (ci := 2) (N := 9) fX2_42 ptX2 (Or.inl rfl) (by decide) so_7.is (by decide) (by decide) (by decide +kernel) rfl rfl dX2_readNumber_188 ?_
      refine uu_aload_n dX2_readNumber_191 rfl (List.mem_of_getElem? (i := 1) rfl) ?_
      refine uu_lload_n dX2_readNumber_192 rfl (List.mem_of_getElem? (i := 2) rfl) ?_
      refine uu_l2i dX2_readNumber_193 rfl ?_
      refine uu_puti (ft := .int) (ci := 2) (N := 9) fX2_114 ptX2 (Or.inl rfl) (by decide) so_7.is (by decide) (by decide) (by decide +kernel) rfl rfl dX2_readNumber_194 ?_
      have hr := Option.some.inj h
      subst hr
      exact uu_vret rfl dX2_readNumber_197
def fb_X2_readNumber_136  (l1 : Int64) (s : uS) : Option uS := (fn_X2_isWordStart (s.I 7 8) s).bind fun v1 => if v1 = true then (fb_X2_readNumber_166 l1 false s) else ((fn_X2_byteAt (s.I 7 8) s).bind fun v4 => (fn_X9_isDigit v4 s).bind fun v6 => if v6 = true then (fb_X2_readNumber_166 l1 false s) else (fb_X2_readNumber_166 l1 true s))
set_option maxRecDepth 100000 in
set_option maxHeartbeats 4000000 in
theorem xb_X2_readNumber_136 {l : Launch} {D : va_G} {A : Nat → ClassId} {B : Nat} {Z : State → Heap → Prop} {vF : Value} (uk : uK B Z vF)   {l1 : Int64} {s : uS} {r : uS}  (h : fb_X2_readNumber_136  l1 s = some r) : GU l D A B Z mX2_readNumber 2 (r, none) s 136 [(0, .ref (B + 7)), (1, .long l1)] [] := by
  unfold fb_X2_readNumber_136 at h
  refine uu_aload_n dX2_readNumber_136 rfl (List.mem_of_getElem? (i := 0) rfl) ?_
  refine uu_aload_n dX2_readNumber_137 rfl (List.mem_of_getElem? (i := 0) rfl) ?_
  refine uu_geti (ci := 2) (N := 9) fX2_26 (by decide) so_7.is (by decide) (by decide) dX2_readNumber_138 ?_
  obtain ⟨v1, e2, h⟩ := uu_ob h
  refine uu_cv (d1 := 1) (k := 7) (ci := 2) (T := TX2) (N := 9) (As := [.int (s.I 7 8)]) (st := []) (st' := [.int (bI v1)]) (xc_X2_isWordStart uk  e2) so_7.is (by decide) rfl kX2_isWordStart lX2_52 sX2_isWordStart (by decide) (Nat.le_of_ble_eq_true rfl) dX2_readNumber_141 rfl ?_
  refine uu_ifb_ne (tgt := 165) dX2_readNumber_144 (by decide) (fun c3 => ?_) (fun c3 => ?_)
  · replace h := uu_pos c3 h
    refine uu_iconst (v := 0) dX2_readNumber_165 (by decide) ?_
    exact xb_X2_readNumber_166 uk  h
  · replace h := uu_neg c3 h
    refine uu_aload_n dX2_readNumber_147 rfl (List.mem_of_getElem? (i := 0) rfl) ?_
    refine uu_aload_n dX2_readNumber_148 rfl (List.mem_of_getElem? (i := 0) rfl) ?_
    refine uu_geti (ci := 2) (N := 9) fX2_26 (by decide) so_7.is (by decide) (by decide) dX2_readNumber_149 ?_
    obtain ⟨v4, e5, h⟩ := uu_ob h
    refine uu_cv (d1 := 0) (k := 7) (ci := 2) (T := TX2) (N := 9) (As := [.int (s.I 7 8)]) (st := []) (st' := [.int v4]) (xc_X2_byteAt uk  e5) so_7.is (by decide) rfl kX2_byteAt lX2_88 sX2_byteAt (by decide) (Nat.le_of_ble_eq_true rfl) dX2_readNumber_152 rfl ?_
    obtain ⟨v6, e7, h⟩ := uu_ob h
    refine uu_cs (d1 := 0) (As := [.int v4]) (st := []) (st' := [.int (bI v6)]) (xc_X9_isDigit uk  e7) kX9_isDigit lX2_67 sX9_isDigit (by decide) (Nat.le_of_ble_eq_true rfl) dX2_readNumber_155 rfl ?_
    refine uu_ifb_ne (tgt := 165) dX2_readNumber_158 (by decide) (fun c8 => ?_) (fun c8 => ?_)
    · replace h := uu_pos c8 h
      refine uu_iconst (v := 0) dX2_readNumber_165 (by decide) ?_
      exact xb_X2_readNumber_166 uk  h
    · replace h := uu_neg c8 h
      refine uu_iconst (v := 1) dX2_readNumber_161 (by decide) ?_
      refine uu_goto (tgt := 166) dX2_readNumber_162 (by decide) ?_
      exact xb_X2_readNumber_166 uk  h
def fb_X2_readNumber_114  (l1 : Int64) (xs0 : Int32) (s : uS) : Option uS := if xs0 ≤ 0 then (fb_X2_readNumber_136 l1 s) else (fb_X2_readNumber_136 (l1 <<< (xs0.toInt64 &&& 63)) (wI s 7 8 ((s.I 7 8) + 1)))
set_option maxRecDepth 100000 in
set_option maxHeartbeats 4000000 in
theorem xb_X2_readNumber_114 {l : Launch} {D : va_G} {A : Nat → ClassId} {B : Nat} {Z : State → Heap → Prop} {vF : Value} (uk : uK B Z vF)   {l1 : Int64} {xs0 : Int32} {s : uS} {r : uS}  (h : fb_X2_readNumber_114  l1 xs0 s = some r) : GU l D A B Z mX2_readNumber 2 (r, none) s 114 [(0, .ref (B + 7)), (1, .long l1)] [.int xs0] := by
  unfold fb_X2_readNumber_114 at h
  refine uu_istore dX2_readNumber_114 (by decide) rfl ?_
  refine uu_iload dX2_readNumber_116 (List.mem_of_getElem? (i := 0) rfl) ?_
  refine uu_if_le (tgt := 136) dX2_readNumber_118 (by decide) (fun c1 => ?_) (fun c1 => ?_)
  · replace h := uu_pos c1 h
    refine uu_lv [1, 2] (lv' := [(0, .ref (B + 7)), (1, .long l1)]) rfl ?_
    exact xb_X2_readNumber_136 uk  h
  · replace h := uu_neg c1 h
    refine uu_lload_n dX2_readNumber_121 rfl (List.mem_of_getElem? (i := 2) rfl) ?_
    refine uu_iload dX2_readNumber_122 (List.mem_of_getElem? (i := 0) rfl) ?_
    refine uu_lshl dX2_readNumber_124 rfl ?_
    refine uu_lstore_n dX2_readNumber_125 rfl (by decide) rfl ?_
    refine uu_aload_n dX2_readNumber_126 rfl (List.mem_of_getElem? (i := 2) rfl) ?_
    refine uu_dup dX2_readNumber_127 rfl ?_
    refine uu_geti (ci := 2) (N := 9) fX2_26 (by decide) so_7.is (by decide) (by decide) dX2_readNumber_128 ?_
    refine uu_iconst (v := 1) dX2_readNumber_131 (by decide) ?_
    refine uu_iadd dX2_readNumber_132 ?_
    refine uu_puti (ft := .int) (ci := 2) (N := 9) fX2_26 ptX2 (Or.inl rfl) (by decide) so_7.is (by decide) (by decide) (by decide +kernel) rfl rfl dX2_readNumber_133 ?_
    refine uu_lv [2, 0] (lv' := [(0, .ref (B + 7)), (1, .long (l1 <<< (xs0.toInt64 &&& 63)))]) rfl ?_
    exact xb_X2_readNumber_136 uk  h
def fb_X2_readNumber_68  (l1 : Int64) (s : uS) : Option uS := (fn_X2_byteAt (s.I 7 8) s).bind fun v1 => (fn_X9_upper v1 s).bind fun v3 => if v3 = 75 then (fb_X2_readNumber_114 l1 10 s) else (if v3 = 77 then (fb_X2_readNumber_114 l1 20 s) else (if v3 = 71 then (fb_X2_readNumber_114 l1 30 s) else (fb_X2_readNumber_114 l1 0 s)))
set_option maxRecDepth 100000 in
set_option maxHeartbeats 4000000 in
theorem xb_X2_readNumber_68 {l : Launch} {D : va_G} {A : Nat → ClassId} {B : Nat} {Z : State → Heap → Prop} {vF : Value} (uk : uK B Z vF)   {l1 : Int64} {s : uS} {r : uS}  (h : fb_X2_readNumber_68  l1 s = some r) : GU l D A B Z mX2_readNumber 2 (r, none) s 68 [(0, .ref (B + 7)), (1, .long l1)] [] := by
  unfold fb_X2_readNumber_68 at h
  refine uu_aload_n dX2_readNumber_68 rfl (List.mem_of_getElem? (i := 0) rfl) ?_
  refine uu_aload_n dX2_readNumber_69 rfl (List.mem_of_getElem? (i := 0) rfl) ?_
  refine uu_geti (ci := 2) (N := 9) fX2_26 (by decide) so_7.is (by decide) (by decide) dX2_readNumber_70 ?_
  obtain ⟨v1, e2, h⟩ := uu_ob h
  refine uu_cv (d1 := 0) (k := 7) (ci := 2) (T := TX2) (N := 9) (As := [.int (s.I 7 8)]) (st := []) (st' := [.int v1]) (xc_X2_byteAt uk  e2) so_7.is (by decide) rfl kX2_byteAt lX2_88 sX2_byteAt (by decide) (Nat.le_of_ble_eq_true rfl) dX2_readNumber_73 rfl ?_
  obtain ⟨v3, e4, h⟩ := uu_ob h
  refine uu_cs (d1 := 0) (As := [.int v1]) (st := []) (st' := [.int v3]) (xc_X9_upper uk  e4) kX9_upper lX2_109 sX9_upper (by decide) (Nat.le_of_ble_eq_true rfl) dX2_readNumber_76 rfl ?_
  refine uu_istore_n dX2_readNumber_79 rfl (by decide) rfl ?_
  refine uu_iload_n dX2_readNumber_80 rfl (List.mem_of_getElem? (i := 0) rfl) ?_
  refine uu_bipush (v := 75) dX2_readNumber_81 (by decide) ?_
  refine uu_icmp_ne (tgt := 91) dX2_readNumber_83 (by decide) (fun c5 => ?_) (fun c5 => ?_)
  · replace h := uu_neg c5 h
    refine uu_iload_n dX2_readNumber_91 rfl (List.mem_of_getElem? (i := 0) rfl) ?_
    refine uu_bipush (v := 77) dX2_readNumber_92 (by decide) ?_
    refine uu_icmp_ne (tgt := 102) dX2_readNumber_94 (by decide) (fun c6 => ?_) (fun c6 => ?_)
    · replace h := uu_neg c6 h
      refine uu_iload_n dX2_readNumber_102 rfl (List.mem_of_getElem? (i := 0) rfl) ?_
      refine uu_bipush (v := 71) dX2_readNumber_103 (by decide) ?_
      refine uu_icmp_ne (tgt := 113) dX2_readNumber_105 (by decide) (fun c7 => ?_) (fun c7 => ?_)
      · replace h := uu_neg c7 h
        refine uu_iconst (v := 0) dX2_readNumber_113 (by decide) ?_
        refine uu_lv [1, 2] (lv' := [(0, .ref (B + 7)), (1, .long l1)]) rfl ?_
        exact xb_X2_readNumber_114 uk  h
      · replace h := uu_pos c7 h
        refine uu_bipush (v := 30) dX2_readNumber_108 (by decide) ?_
        refine uu_goto (tgt := 114) dX2_readNumber_110 (by decide) ?_
        refine uu_lv [1, 2] (lv' := [(0, .ref (B + 7)), (1, .long l1)]) rfl ?_
        exact xb_X2_readNumber_114 uk  h
    · replace h := uu_pos c6 h
      refine uu_bipush (v := 20) dX2_readNumber_97 (by decide) ?_
      refine uu_goto (tgt := 114) dX2_readNumber_99 (by decide) ?_
      refine uu_lv [1, 2] (lv' := [(0, .ref (B + 7)), (1, .long l1)]) rfl ?_
      exact xb_X2_readNumber_114 uk  h
  · replace h := uu_pos c5 h
    refine uu_bipush (v := 10) dX2_readNumber_86 (by decide) ?_
    refine uu_goto (tgt := 114) dX2_readNumber_88 (by decide) ?_
    refine uu_lv [1, 2] (lv' := [(0, .ref (B + 7)), (1, .long l1)]) rfl ?_
    exact xb_X2_readNumber_114 uk  h
def fb_X2_readNumber_2 (K2 : Int64 → uS → Option uS) (l1 : Int64) (s : uS) : Option uS := if (s.I 7 5) ≤ (s.I 7 8) then (fb_X2_readNumber_68 l1 s) else ((s.R 7 1).bind fun j2 => (iget 21 s j2 (s.I 7 8)).bind fun v4 => (fn_X9_isDigit v4 s).bind fun v6 => if v6 = true then ((s.R 7 1).bind fun j9 => (iget 21 s j9 (s.I 7 8)).bind fun v11 => K2 (if (2147483648 : Int64) < (((l1 * 10) + v11.toInt64) - 48) then (2147483648 : Int64) else (((l1 * 10) + v11.toInt64) - 48)) (wI s 7 8 ((s.I 7 8) + 1))) else (fb_X2_readNumber_68 l1 s))
set_option maxRecDepth 100000 in
set_option maxHeartbeats 4000000 in
theorem xb_X2_readNumber_2 {l : Launch} {D : va_G} {A : Nat → ClassId} {B : Nat} {Z : State → Heap → Prop} {vF : Value} (uk : uK B Z vF) {K2 : Int64 → uS → Option uS} (hK2 : ∀ (l1 : Int64)  (s : uS) (r : uS), K2 l1 s = some r → GU l D A B Z mX2_readNumber 2 (r, none) s 2 [(0, .ref (B + 7)), (1, .long l1)] []) {l1 : Int64} {s : uS} {r : uS}  (h : fb_X2_readNumber_2 K2 l1 s = some r) : GU l D A B Z mX2_readNumber 2 (r, none) s 2 [(0, .ref (B + 7)), (1, .long l1)] [] := by
  unfold fb_X2_readNumber_2 at h
  refine uu_aload_n dX2_readNumber_2 rfl (List.mem_of_getElem? (i := 0) rfl) ?_
  refine uu_geti (ci := 2) (N := 9) fX2_26 (by decide) so_7.is (by decide) (by decide) dX2_readNumber_3 ?_
  refine uu_aload_n dX2_readNumber_6 rfl (List.mem_of_getElem? (i := 0) rfl) ?_
  refine uu_geti (ci := 2) (N := 9) fX2_29 (by decide) so_7.is (by decide) (by decide) dX2_readNumber_7 ?_
  refine uu_icmp_ge (tgt := 68) dX2_readNumber_10 (by decide) (fun c1 => ?_) (fun c1 => ?_)
  · replace h := uu_pos c1 h
    exact xb_X2_readNumber_68 uk  h
  · replace h := uu_neg c1 h
    refine uu_aload_n dX2_readNumber_13 rfl (List.mem_of_getElem? (i := 0) rfl) ?_
    obtain ⟨j2, e3, h⟩ := uu_ob h
    refine uu_getr (ci := 2) (N := 9) fX2_18 (by decide) so_7.is (by decide) (by decide) e3 dX2_readNumber_14 ?_
    refine uu_aload_n dX2_readNumber_17 rfl (List.mem_of_getElem? (i := 0) rfl) ?_
    refine uu_geti (ci := 2) (N := 9) fX2_26 (by decide) so_7.is (by decide) (by decide) dX2_readNumber_18 ?_
    obtain ⟨v4, e5, h⟩ := uu_ob h
    refine uu_bald e5 dX2_readNumber_21 ?_
    obtain ⟨v6, e7, h⟩ := uu_ob h
    refine uu_cs (d1 := 0) (As := [.int v4]) (st := []) (st' := [.int (bI v6)]) (xc_X9_isDigit uk  e7) kX9_isDigit lX2_67 sX9_isDigit (by decide) (Nat.le_of_ble_eq_true rfl) dX2_readNumber_22 rfl ?_
    refine uu_ifb_eq (tgt := 68) dX2_readNumber_25 (by decide) (fun c8 => ?_) (fun c8 => ?_)
    · replace h := uu_neg c8 h
      exact xb_X2_readNumber_68 uk  h
    · replace h := uu_pos c8 h
      refine uu_lload_n dX2_readNumber_28 rfl (List.mem_of_getElem? (i := 1) rfl) ?_
      refine uu_ldc2 (v := 10) cX2_97 dX2_readNumber_29 ?_
      refine uu_lmul dX2_readNumber_32 ?_
      refine uu_aload_n dX2_readNumber_33 rfl (List.mem_of_getElem? (i := 0) rfl) ?_
      obtain ⟨j9, e10, h⟩ := uu_ob h
      refine uu_getr (ci := 2) (N := 9) fX2_18 (by decide) so_7.is (by decide) (by decide) e10 dX2_readNumber_34 ?_
      refine uu_aload_n dX2_readNumber_37 rfl (List.mem_of_getElem? (i := 0) rfl) ?_
      refine uu_geti (ci := 2) (N := 9) fX2_26 (by decide) so_7.is (by decide) (by decide) dX2_readNumber_38 ?_
      obtain ⟨v11, e12, h⟩ := uu_ob h
      refine uu_bald e12 dX2_readNumber_41 ?_
      refine uu_i2l dX2_readNumber_42 rfl ?_
      refine uu_ladd dX2_readNumber_43 ?_
      refine uu_ldc2 (v := 48) cX2_99 dX2_readNumber_44 ?_
      refine uu_lsub dX2_readNumber_47 ?_
      refine uu_ldc2 (v := 2147483648) cX2_101 dX2_readNumber_48 ?_
      refine uu_lmin lmX2_103 (by decide) (Nat.le_of_ble_eq_true rfl) dX2_readNumber_51 ?_
      refine uu_lstore_n dX2_readNumber_54 rfl (by decide) rfl ?_
      refine uu_aload_n dX2_readNumber_55 rfl (List.mem_of_getElem? (i := 1) rfl) ?_
      refine uu_dup dX2_readNumber_56 rfl ?_
      refine uu_geti (ci := 2) (N := 9) fX2_26 (by decide) so_7.is (by decide) (by decide) dX2_readNumber_57 ?_
      refine uu_iconst (v := 1) dX2_readNumber_60 (by decide) ?_
      refine uu_iadd dX2_readNumber_61 ?_
      refine uu_puti (ft := .int) (ci := 2) (N := 9) fX2_26 ptX2 (Or.inl rfl) (by decide) so_7.is (by decide) (by decide) (by decide +kernel) rfl rfl dX2_readNumber_62 ?_
      refine uu_goto (tgt := 2) dX2_readNumber_65 (by decide) ?_
      refine uu_lv [1, 0] (lv' := [(0, .ref (B + 7)), (1, .long (if (2147483648 : Int64) < (((l1 * 10) + v11.toInt64) - 48) then (2147483648 : Int64) else (((l1 * 10) + v11.toInt64) - 48)))]) rfl ?_
      exact hK2 (if (2147483648 : Int64) < (((l1 * 10) + v11.toInt64) - 48) then (2147483648 : Int64) else (((l1 * 10) + v11.toInt64) - 48)) _ _ h
def fn_X2_readNumber_2  : Nat → Int64 → uS → Option uS
  | 0 => fun _ _ => none
  | n + 1 => fb_X2_readNumber_2 (fn_X2_readNumber_2  n)
set_option maxRecDepth 100000 in
set_option maxHeartbeats 4000000 in
theorem xn_X2_readNumber_2 {l : Launch} {D : va_G} {A : Nat → ClassId} {B : Nat} {Z : State → Heap → Prop} {vF : Value} (uk : uK B Z vF)   : ∀ (n : Nat) (l1 : Int64)  (s : uS) (r : uS), fn_X2_readNumber_2  n l1 s = some r → GU l D A B Z mX2_readNumber 2 (r, none) s 2 [(0, .ref (B + 7)), (1, .long l1)] [] := by
  intro n
  induction n with
  | zero => intro l1 s r h
            cases h
  | succ n ih => intro l1 s r h
                 exact xb_X2_readNumber_2 uk ih  h
def fn_X2_readNumber  (s : uS) : Option uS := fn_X2_readNumber_2 uFu 0 s
set_option maxRecDepth 100000 in
set_option maxHeartbeats 4000000 in
theorem xc_X2_readNumber {l : Launch} {D : va_G} {A : Nat → ClassId} {B : Nat} {Z : State → Heap → Prop} {vF : Value} (uk : uK B Z vF)  {s : uS} {r : uS}  (h : fn_X2_readNumber  s = some r) : CU l D A B Z 2 mX2_readNumber s [.ref (B + 7)] (r, none) := by
  unfold fn_X2_readNumber at h
  refine cu_of rfl uk.1.1 (Nat.le_of_ble_eq_true rfl) ?_
  show GU _ _ _ _ _ _ _ _ _ 0 [(0, .ref (B + 7))] []
  refine uu_lconst (v := 0) dX2_readNumber_0 (by decide) ?_
  refine uu_lstore_n dX2_readNumber_1 rfl (by decide) rfl ?_
  refine uu_lv [1, 0] (lv' := [(0, .ref (B + 7)), (1, .long 0)]) rfl ?_
  exact xn_X2_readNumber_2 uk  _ _ _ _ h
def fn_X9_put (k0 : Nat) (x1 : Int32) (s : uS) : Option uS := (ulen s (k0 + 1)).bind fun v1 => if v1 ≤ (s.I k0 5) then (some s) else ((iput 21 s (k0 + 1) (s.I k0 5) x1.toInt8.toInt32).bind fun s4 => some (wI s4 k0 5 ((s4.I k0 5) + 1)))
set_option maxRecDepth 100000 in
set_option maxHeartbeats 4000000 in
theorem xc_X9_put {l : Launch} {D : va_G} {A : Nat → ClassId} {B : Nat} {Z : State → Heap → Prop} {vF : Value} (uk : uK B Z vF) {k0 : Nat} {x1 : Int32} {s : uS} {r : uS} (hk0 : uSo k0 9) (h : fn_X9_put k0 x1 s = some r) : CU l D A B Z 0 mX9_put s [.ref (B + k0), .int x1] (r, none) := by
  unfold fn_X9_put at h
  refine cu_of rfl uk.1.1 (Nat.le_of_ble_eq_true rfl) ?_
  show GU _ _ _ _ _ _ _ _ _ 0 [(0, .ref (B + k0)), (1, .int x1)] []
  refine uu_aload_n dX9_put_0 rfl (List.mem_of_getElem? (i := 0) rfl) ?_
  refine uu_geti (ci := 9) (N := 6) fX9_27 (by decide) hk0.is (by decide) (by decide) dX9_put_1 ?_
  refine uu_aload_n dX9_put_4 rfl (List.mem_of_getElem? (i := 0) rfl) ?_
  refine uu_getc (ci := 9) (N := 6) fX9_9 (by decide) hk0.is (by decide) (c := 1) (by decide) (k2 := k0 + 1) rfl dX9_put_5 ?_
  obtain ⟨v1, e2, h⟩ := uu_ob h
  refine uu_alen e2 dX9_put_8 ?_
  refine uu_icmp_ge (tgt := 33) dX9_put_9 (by decide) (fun c3 => ?_) (fun c3 => ?_)
  · replace h := uu_pos c3 h
    have hr := Option.some.inj h
    subst hr
    exact uu_vret rfl dX9_put_33
  · replace h := uu_neg c3 h
    refine uu_aload_n dX9_put_12 rfl (List.mem_of_getElem? (i := 0) rfl) ?_
    refine uu_getc (ci := 9) (N := 6) fX9_9 (by decide) hk0.is (by decide) (c := 1) (by decide) (k2 := k0 + 1) rfl dX9_put_13 ?_
    refine uu_aload_n dX9_put_16 rfl (List.mem_of_getElem? (i := 0) rfl) ?_
    refine uu_geti (ci := 9) (N := 6) fX9_27 (by decide) hk0.is (by decide) (by decide) dX9_put_17 ?_
    refine uu_iload_n dX9_put_20 rfl (List.mem_of_getElem? (i := 1) rfl) ?_
    refine uu_i2b dX9_put_21 rfl ?_
    obtain ⟨s4, e5, h⟩ := uu_ob h
    refine uu_bast e5 dX9_put_22 ?_
    refine uu_aload_n dX9_put_23 rfl (List.mem_of_getElem? (i := 0) rfl) ?_
    refine uu_dup dX9_put_24 rfl ?_
    refine uu_geti (ci := 9) (N := 6) fX9_27 (by decide) hk0.is (by decide) (by decide) dX9_put_25 ?_
    refine uu_iconst (v := 1) dX9_put_28 (by decide) ?_
    refine uu_iadd dX9_put_29 ?_
    refine uu_puti (ft := .int) (ci := 9) (N := 6) fX9_27 ptX9 (Or.inl rfl) (by decide) hk0.is (by decide) (by decide) (by decide +kernel) rfl rfl dX9_put_30 ?_
    have hr := Option.some.inj h
    subst hr
    exact uu_vret rfl dX9_put_33
