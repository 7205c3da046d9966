abbrev mX6_isCount : hM := (yX6_isCount, cX6_isCount, 3, (some (.boolean)))
theorem dX6_isCount_30 : decode cX6_isCount 30 = .ok (.iload_n 2, 1) := by decide +kernel
theorem dX6_isCount_31 : decode cX6_isCount 31 = .ok (.aload_n 1, 1) := by decide +kernel
theorem dX6_isCount_32 : decode cX6_isCount 32 = .ok (.getfield 140, 3) := by decide +kernel
theorem dX6_isCount_35 : decode cX6_isCount 35 = .ok (.iconst 1, 1) := by decide +kernel
theorem dX6_isCount_36 : decode cX6_isCount 36 = .ok (.iaload, 1) := by decide +kernel
theorem dX6_isCount_37 : decode cX6_isCount 37 = .ok (.if_icmp .ge 38, 3) := by decide +kernel
theorem dX6_isCount_75 : decode cX6_isCount 75 = .ok (.iconst 0, 1) := by decide +kernel
theorem dX6_isCount_76 : decode cX6_isCount 76 = .ok (.ireturn, 1) := by decide +kernel
theorem dX6_isCount_40 : decode cX6_isCount 40 = .ok (.aload_n 1, 1) := by decide +kernel
theorem dX6_isCount_41 : decode cX6_isCount 41 = .ok (.aload_n 0, 1) := by decide +kernel
theorem dX6_isCount_42 : decode cX6_isCount 42 = .ok (.getfield 24, 3) := by decide +kernel
theorem dX6_isCount_45 : decode cX6_isCount 45 = .ok (.iconst 0, 1) := by decide +kernel
theorem dX6_isCount_46 : decode cX6_isCount 46 = .ok (.aload_n 0, 1) := by decide +kernel
theorem dX6_isCount_47 : decode cX6_isCount 47 = .ok (.getfield 31, 3) := by decide +kernel
theorem dX6_isCount_50 : decode cX6_isCount 50 = .ok (.aload_n 1, 1) := by decide +kernel
theorem dX6_isCount_51 : decode cX6_isCount 51 = .ok (.getfield 137, 3) := by decide +kernel
theorem dX6_isCount_54 : decode cX6_isCount 54 = .ok (.iconst 1, 1) := by decide +kernel
theorem dX6_isCount_55 : decode cX6_isCount 55 = .ok (.iaload, 1) := by decide +kernel
theorem dX6_isCount_56 : decode cX6_isCount 56 = .ok (.iload_n 2, 1) := by decide +kernel
theorem dX6_isCount_57 : decode cX6_isCount 57 = .ok (.iadd, 1) := by decide +kernel
theorem lX6_199 : Cond.methodLink RX6 199 mX3_orderOfNumbers.1 ∈ lw_g := h_t5 208 rfl rfl
theorem dX6_isCount_58 : decode cX6_isCount 58 = .ok (.invokestatic 199, 3) := by decide +kernel
theorem lX6_203 : Cond.methodLink RX6 203 mX3_stands.1 ∈ lw_g := h_t5 214 rfl rfl
theorem dX6_isCount_61 : decode cX6_isCount 61 = .ok (.invokevirtual 203, 3) := by decide +kernel
theorem dX6_isCount_64 : decode cX6_isCount 64 = .ok (.ifCond .eq 5, 3) := by decide +kernel
theorem dX6_isCount_69 : decode cX6_isCount 69 = .ok (.iinc 2 1, 3) := by decide +kernel
theorem dX6_isCount_72 : decode cX6_isCount 72 = .ok (.goto (-42), 3) := by decide +kernel
theorem dX6_isCount_67 : decode cX6_isCount 67 = .ok (.iconst 1, 1) := by decide +kernel
theorem dX6_isCount_68 : decode cX6_isCount 68 = .ok (.ireturn, 1) := by decide +kernel
theorem dX6_isCount_0 : decode cX6_isCount 0 = .ok (.aload_n 0, 1) := by decide +kernel
theorem dX6_isCount_1 : decode cX6_isCount 1 = .ok (.getfield 24, 3) := by decide +kernel
theorem lX6_34 : Cond.methodLink RX6 34 mX9_clear.1 ∈ lw_g := h_t4 117 rfl rfl
theorem dX6_isCount_4 : decode cX6_isCount 4 = .ok (.invokevirtual 34, 3) := by decide +kernel
theorem dX6_isCount_7 : decode cX6_isCount 7 = .ok (.aload_n 0, 1) := by decide +kernel
theorem dX6_isCount_8 : decode cX6_isCount 8 = .ok (.getfield 24, 3) := by decide +kernel
theorem dX6_isCount_11 : decode cX6_isCount 11 = .ok (.aload_n 0, 1) := by decide +kernel
theorem dX6_isCount_12 : decode cX6_isCount 12 = .ok (.getfield 21, 3) := by decide +kernel
theorem dX6_isCount_15 : decode cX6_isCount 15 = .ok (.getfield 62, 3) := by decide +kernel
theorem kX9_putNumber : h_ml mX9_putNumber 1 := ⟨h_t5 206 rfl rfl, h_t1 4 rfl rfl, ⟨by decide, by decide, by decide +kernel⟩, by decide⟩
theorem lX6_196 : Cond.methodLink RX6 196 mX9_putNumber.1 ∈ lw_g := h_t5 203 rfl rfl
theorem sX9_putNumber : Cond.instanceMethod mX9_putNumber.1 ∈ lw_g ∧ Cond.selects mX9_putNumber.1.cls mX9_putNumber.1 mX9_putNumber.1 ∈ lw_g := ⟨h_t5 204 rfl rfl, h_t5 205 rfl rfl⟩
theorem dX6_isCount_18 : decode cX6_isCount 18 = .ok (.invokevirtual 196, 3) := by decide +kernel
theorem dX6_isCount_21 : decode cX6_isCount 21 = .ok (.aload_n 0, 1) := by decide +kernel
theorem dX6_isCount_22 : decode cX6_isCount 22 = .ok (.getfield 24, 3) := by decide +kernel
theorem dX6_isCount_25 : decode cX6_isCount 25 = .ok (.invokevirtual 72, 3) := by decide +kernel
theorem dX6_isCount_28 : decode cX6_isCount 28 = .ok (.iconst 0, 1) := by decide +kernel
theorem dX6_isCount_29 : decode cX6_isCount 29 = .ok (.istore_n 2, 1) := by decide +kernel
def fb_X6_isCount_30 (K30 : Nat → Int32 → uS → Option (uS × Bool)) (k1 : Nat) (x2 : Int32) (s : uS) : Option (uS × Bool) := (iget 20 s (k1 + 2) 1).bind fun v1 => if v1 ≤ x2 then (some (s, false)) else ((iget 20 s (k1 + 1) 1).bind fun v4 => (fn_X3_orderOfNumbers 1066 0 8 (v4 + x2) s).bind fun v6 => (fn_X3_stands k1 v6 s).bind fun v8 => if v8 = true then (some (s, true)) else (K30 k1 (x2 + 1) s))
set_option maxRecDepth 100000 in
set_option maxHeartbeats 4000000 in
theorem xb_X6_isCount_30 {l : Launch} {D : va_G} {A : Nat → ClassId} {B : Nat} {Z : State → Heap → Prop} {vF : Value} (uk : uK B Z vF) {K30 : Nat → Int32 → uS → Option (uS × Bool)} (hK30 : ∀ (k1 : Nat) (x2 : Int32) (hk1 : uSo k1 3) (s : uS) (r : (uS × Bool)), K30 k1 x2 s = some r → GU l D A B Z mX6_isCount 2 (r.1, some (.int (bI r.2))) s 30 [(0, .ref (B + 1053)), (1, .ref (B + k1)), (2, .int x2)] []) {k1 : Nat} {x2 : Int32} {s : uS} {r : (uS × Bool)} (hk1 : uSo k1 3) (h : fb_X6_isCount_30 K30 k1 x2 s = some r) : GU l D A B Z mX6_isCount 2 (r.1, some (.int (bI r.2))) s 30 [(0, .ref (B + 1053)), (1, .ref (B + k1)), (2, .int x2)] [] := by
  unfold fb_X6_isCount_30 at h
  refine uu_iload_n dX6_isCount_30 rfl (List.mem_of_getElem? (i := 2) rfl) ?_
  refine uu_aload_n dX6_isCount_31 rfl (List.mem_of_getElem? (i := 1) rfl) ?_
  refine uu_getc (ci := 3) (N := 15) fX6_140 (by decide) hk1.is (by decide) (c := 2) (by decide) (k2 := k1 + 2) rfl dX6_isCount_32 ?_
  refine uu_iconst (v := 1) dX6_isCount_35 (by decide) ?_
  obtain ⟨v1, e2, h⟩ := uu_ob h
  refine uu_iald e2 dX6_isCount_36 ?_
  refine uu_icmp_ge (tgt := 75) dX6_isCount_37 (by decide) (fun c3 => ?_) (fun c3 => ?_)
  · replace h := uu_pos c3 h
    refine uu_iconst (v := 0) dX6_isCount_75 (by decide) ?_
    have hr := Option.some.inj h
    subst hr
    exact uu_zret (x := bI false) rfl (bI_z _) dX6_isCount_76
  · replace h := uu_neg c3 h
    refine uu_aload_n dX6_isCount_40 rfl (List.mem_of_getElem? (i := 1) rfl) ?_
    refine uu_aload_n dX6_isCount_41 rfl (List.mem_of_getElem? (i := 0) rfl) ?_
    refine uu_geta (ci := 6) (N := 6) fX6_24 (by decide) so_1053.is (by decide) (c := 1066) (by decide) dX6_isCount_42 ?_
    refine uu_iconst (v := 0) dX6_isCount_45 (by decide) ?_
    refine uu_aload_n dX6_isCount_46 rfl (List.mem_of_getElem? (i := 0) rfl) ?_
    refine uu_geta (ci := 6) (N := 6) fX6_31 (by decide) so_1053.is (by decide) (c := 8) (by decide) dX6_isCount_47 ?_
    refine uu_aload_n dX6_isCount_50 rfl (List.mem_of_getElem? (i := 1) rfl) ?_
    refine uu_getc (ci := 3) (N := 15) fX6_137 (by decide) hk1.is (by decide) (c := 1) (by decide) (k2 := k1 + 1) rfl dX6_isCount_51 ?_
    refine uu_iconst (v := 1) dX6_isCount_54 (by decide) ?_
    obtain ⟨v4, e5, h⟩ := uu_ob h
    refine uu_iald e5 dX6_isCount_55 ?_
    refine uu_iload_n dX6_isCount_56 rfl (List.mem_of_getElem? (i := 2) rfl) ?_
    refine uu_iadd dX6_isCount_57 ?_
    obtain ⟨v6, e7, h⟩ := uu_ob h
    refine uu_cs (d1 := 1) (As := [.ref (B + 1066), .int 0, .ref (B + 8), .int (v4 + x2)]) (st := [.ref (B + k1)]) (st' := [.int v6, .ref (B + k1)]) (xc_X3_orderOfNumbers uk so_1066 so_8 e7) kX3_orderOfNumbers lX6_199 sX3_orderOfNumbers (by decide) (Nat.le_of_ble_eq_true rfl) dX6_isCount_58 rfl ?_
    obtain ⟨v8, e9, h⟩ := uu_ob h
    refine uu_cv (d1 := 0) (k := k1) (ci := 3) (T := TX3) (N := 15) (As := [.int v6]) (st := []) (st' := [.int (bI v8)]) (xc_X3_stands uk hk1 e9) hk1.is (by decide) rfl kX3_stands lX6_203 sX3_stands (by decide) (Nat.le_of_ble_eq_true rfl) dX6_isCount_61 rfl ?_
    refine uu_ifb_eq (tgt := 69) dX6_isCount_64 (by decide) (fun c10 => ?_) (fun c10 => ?_)
    · replace h := uu_neg c10 h
      refine uu_iinc (v := x2 + 1) dX6_isCount_69 (k := 2) rfl rfl (by decide) rfl ?_
      refine uu_goto (tgt := 30) dX6_isCount_72 (by decide) ?_
      refine uu_lv [1, 2, 0] (lv' := [(0, .ref (B + 1053)), (1, .ref (B + k1)), (2, .int (x2 + 1))]) rfl ?_
      exact hK30 k1 (x2 + 1) hk1 _ _ h
    · replace h := uu_pos c10 h
      refine uu_iconst (v := 1) dX6_isCount_67 (by decide) ?_
      have hr := Option.some.inj h
      subst hr
      exact uu_zret (x := bI true) rfl (bI_z _) dX6_isCount_68
def fn_X6_isCount_30  : Nat → Nat → Int32 → uS → Option (uS × Bool)
  | 0 => fun _ _ _ => none
  | n + 1 => fb_X6_isCount_30 (fn_X6_isCount_30  n)
set_option maxRecDepth 100000 in
set_option maxHeartbeats 4000000 in
theorem xn_X6_isCount_30 {l : Launch} {D : va_G} {A : Nat → ClassId} {B : Nat} {Z : State → Heap → Prop} {vF : Value} (uk : uK B Z vF)   : ∀ (n : Nat) (k1 : Nat) (x2 : Int32) (hk1 : uSo k1 3) (s : uS) (r : (uS × Bool)), fn_X6_isCount_30  n k1 x2 s = some r → GU l D A B Z mX6_isCount 2 (r.1, some (.int (bI r.2))) s 30 [(0, .ref (B + 1053)), (1, .ref (B + k1)), (2, .int x2)] [] := by
  intro n
  induction n with
  | zero => intro k1 x2 hk1 s r h
            cases h
  | succ n ih => intro k1 x2 hk1 s r h
                 exact xb_X6_isCount_30 uk ih hk1 h
def fn_X6_isCount (k1 : Nat) (s : uS) : Option (uS × Bool) := (fn_X9_clear 1066 s).bind fun s1 => (fn_X9_putNumber 1066 (s1.I 1062 3) s1).bind fun s3 => (fn_X9_close 1066 s3).bind fun s5 => fn_X6_isCount_30 uFu k1 0 s5
set_option maxRecDepth 100000 in
set_option maxHeartbeats 4000000 in
theorem xc_X6_isCount {l : Launch} {D : va_G} {A : Nat → ClassId} {B : Nat} {Z : State → Heap → Prop} {vF : Value} (uk : uK B Z vF) {k1 : Nat} {s : uS} {r : (uS × Bool)} (hk1 : uSo k1 3) (h : fn_X6_isCount k1 s = some r) : CU l D A B Z 2 mX6_isCount s [.ref (B + 1053), .ref (B + k1)] (r.1, some (.int (bI r.2))) := by
  unfold fn_X6_isCount at h
  refine cu_of rfl uk.1.1 (Nat.le_of_ble_eq_true rfl) ?_
  show GU _ _ _ _ _ _ _ _ _ 0 [(0, .ref (B + 1053)), (1, .ref (B + k1))] []
  refine uu_aload_n dX6_isCount_0 rfl (List.mem_of_getElem? (i := 0) rfl) ?_
  refine uu_geta (ci := 6) (N := 6) fX6_24 (by decide) so_1053.is (by decide) (c := 1066) (by decide) dX6_isCount_1 ?_
  obtain ⟨s1, e2, h⟩ := uu_ob h
  refine uu_cv (d1 := 0) (k := 1066) (ci := 9) (T := TX9) (N := 6) (As := []) (st := []) (st' := []) (xc_X9_clear uk so_1066 e2) so_1066.is (by decide) rfl kX9_clear lX6_34 sX9_clear (by decide) (Nat.le_of_ble_eq_true rfl) dX6_isCount_4 rfl ?_
  refine uu_aload_n dX6_isCount_7 rfl (List.mem_of_getElem? (i := 0) rfl) ?_
  refine uu_geta (ci := 6) (N := 6) fX6_24 (by decide) so_1053.is (by decide) (c := 1066) (by decide) dX6_isCount_8 ?_
  refine uu_aload_n dX6_isCount_11 rfl (List.mem_of_getElem? (i := 0) rfl) ?_
  refine uu_geta (ci := 6) (N := 6) fX6_21 (by decide) so_1053.is (by decide) (c := 1062) (by decide) dX6_isCount_12 ?_
  refine uu_geti (ci := 9) (N := 6) fX6_62 (by decide) so_1062.is (by decide) (by decide) dX6_isCount_15 ?_
  obtain ⟨s3, e4, h⟩ := uu_ob h
  refine uu_cv (d1 := 1) (k := 1066) (ci := 9) (T := TX9) (N := 6) (As := [.int (s1.I 1062 3)]) (st := []) (st' := []) (xc_X9_putNumber uk so_1066 e4) so_1066.is (by decide) rfl kX9_putNumber lX6_196 sX9_putNumber (by decide) (Nat.le_of_ble_eq_true rfl) dX6_isCount_18 rfl ?_
  refine uu_aload_n dX6_isCount_21 rfl (List.mem_of_getElem? (i := 0) rfl) ?_
  refine uu_geta (ci := 6) (N := 6) fX6_24 (by decide) so_1053.is (by decide) (c := 1066) (by decide) dX6_isCount_22 ?_
  obtain ⟨s5, e6, h⟩ := uu_ob h
  refine uu_cv (d1 := 0) (k := 1066) (ci := 9) (T := TX9) (N := 6) (As := []) (st := []) (st' := []) (xc_X9_close uk so_1066 e6) so_1066.is (by decide) rfl kX9_close lX6_72 sX9_close (by decide) (Nat.le_of_ble_eq_true rfl) dX6_isCount_25 rfl ?_
  refine uu_iconst (v := 0) dX6_isCount_28 (by decide) ?_
  refine uu_istore_n dX6_isCount_29 rfl (by decide) rfl ?_
  refine uu_lv [1, 2, 0] (lv' := [(0, .ref (B + 1053)), (1, .ref (B + k1)), (2, .int 0)]) rfl ?_
  exact xn_X6_isCount_30 uk  _ _ _ hk1 _ _ h
abbrev mX6_holds : hM := (yX6_holds, cX6_holds, 4, (some (.boolean)))
theorem dX6_holds_136 : decode cX6_holds 136 = .ok (.iload_n 3, 1) := by decide +kernel
theorem dX6_holds_137 : decode cX6_holds 137 = .ok (.aload_n 1, 1) := by decide +kernel
theorem dX6_holds_138 : decode cX6_holds 138 = .ok (.getfield 140, 3) := by decide +kernel
theorem dX6_holds_141 : decode cX6_holds 141 = .ok (.iconst 1, 1) := by decide +kernel
theorem dX6_holds_142 : decode cX6_holds 142 = .ok (.iaload, 1) := by decide +kernel
theorem dX6_holds_143 : decode cX6_holds 143 = .ok (.if_icmp .ge 35, 3) := by decide +kernel
theorem dX6_holds_178 : decode cX6_holds 178 = .ok (.iinc 2 1, 3) := by decide +kernel
theorem dX6_holds_181 : decode cX6_holds 181 = .ok (.goto (-58), 3) := by decide +kernel
theorem dX6_holds_146 : decode cX6_holds 146 = .ok (.aload_n 1, 1) := by decide +kernel
theorem dX6_holds_147 : decode cX6_holds 147 = .ok (.aload_n 0, 1) := by decide +kernel
theorem dX6_holds_148 : decode cX6_holds 148 = .ok (.getfield 21, 3) := by decide +kernel
theorem dX6_holds_151 : decode cX6_holds 151 = .ok (.iload_n 2, 1) := by decide +kernel
theorem dX6_holds_152 : decode cX6_holds 152 = .ok (.aload_n 0, 1) := by decide +kernel
theorem dX6_holds_153 : decode cX6_holds 153 = .ok (.getfield 31, 3) := by decide +kernel
theorem dX6_holds_156 : decode cX6_holds 156 = .ok (.aload_n 1, 1) := by decide +kernel
theorem dX6_holds_157 : decode cX6_holds 157 = .ok (.getfield 137, 3) := by decide +kernel
theorem dX6_holds_160 : decode cX6_holds 160 = .ok (.iconst 1, 1) := by decide +kernel
theorem dX6_holds_161 : decode cX6_holds 161 = .ok (.iaload, 1) := by decide +kernel
theorem dX6_holds_162 : decode cX6_holds 162 = .ok (.iload_n 3, 1) := by decide +kernel
theorem dX6_holds_163 : decode cX6_holds 163 = .ok (.iadd, 1) := by decide +kernel
theorem kX3_isMatch : h_ml mX3_isMatch 4 := ⟨h_t5 221 rfl rfl, h_t1 5 rfl rfl, ⟨by decide, by decide, by decide +kernel⟩, by decide⟩
theorem lX6_192 : Cond.methodLink RX6 192 mX3_isMatch.1 ∈ lw_g := h_t5 218 rfl rfl
theorem sX3_isMatch : Cond.instanceMethod mX3_isMatch.1 ∈ lw_g ∧ Cond.selects mX3_isMatch.1.cls mX3_isMatch.1 mX3_isMatch.1 ∈ lw_g := ⟨h_t5 219 rfl rfl, h_t5 220 rfl rfl⟩
theorem dX6_holds_164 : decode cX6_holds 164 = .ok (.invokevirtual 192, 3) := by decide +kernel
theorem dX6_holds_167 : decode cX6_holds 167 = .ok (.ifCond .eq 5, 3) := by decide +kernel
theorem dX6_holds_172 : decode cX6_holds 172 = .ok (.iinc 3 1, 3) := by decide +kernel
theorem dX6_holds_175 : decode cX6_holds 175 = .ok (.goto (-39), 3) := by decide +kernel
theorem dX6_holds_170 : decode cX6_holds 170 = .ok (.iconst 1, 1) := by decide +kernel
theorem dX6_holds_171 : decode cX6_holds 171 = .ok (.ireturn, 1) := by decide +kernel
theorem dX6_holds_123 : decode cX6_holds 123 = .ok (.iload_n 2, 1) := by decide +kernel
theorem dX6_holds_124 : decode cX6_holds 124 = .ok (.aload_n 0, 1) := by decide +kernel
theorem dX6_holds_125 : decode cX6_holds 125 = .ok (.getfield 21, 3) := by decide +kernel
theorem dX6_holds_128 : decode cX6_holds 128 = .ok (.getfield 62, 3) := by decide +kernel
theorem dX6_holds_131 : decode cX6_holds 131 = .ok (.if_icmp .ge 53, 3) := by decide +kernel
theorem dX6_holds_184 : decode cX6_holds 184 = .ok (.iconst 0, 1) := by decide +kernel
theorem dX6_holds_185 : decode cX6_holds 185 = .ok (.ireturn, 1) := by decide +kernel
theorem dX6_holds_134 : decode cX6_holds 134 = .ok (.iconst 0, 1) := by decide +kernel
theorem dX6_holds_135 : decode cX6_holds 135 = .ok (.istore_n 3, 1) := by decide +kernel
theorem dX6_holds_0 : decode cX6_holds 0 = .ok (.aload_n 1, 1) := by decide +kernel
theorem fX6_102 : h_fl RX6 102 3 0 RX3 TX3 15 := ⟨rfl, by decide, inX3, h_t1 153 rfl rfl⟩
theorem dX6_holds_1 : decode cX6_holds 1 = .ok (.getfield 102, 3) := by decide +kernel
theorem dX6_holds_4 : decode cX6_holds 4 = .ok (.tableswitch 103 15 21 #[48, 54, 103, 103, 103, 44, 46], 44) := by decide +kernel
theorem dX6_holds_52 : decode cX6_holds 52 = .ok (.aload_n 0, 1) := by decide +kernel
theorem dX6_holds_53 : decode cX6_holds 53 = .ok (.aload_n 1, 1) := by decide +kernel
theorem kX6_hasAllFields : h_ml mX6_hasAllFields 1 := ⟨h_t5 198 rfl rfl, h_t1 14 rfl rfl, ⟨by decide, by decide, by decide +kernel⟩, by decide⟩
theorem lX6_175 : Cond.methodLink RX6 175 mX6_hasAllFields.1 ∈ lw_g := h_t5 195 rfl rfl
theorem sX6_hasAllFields : Cond.instanceMethod mX6_hasAllFields.1 ∈ lw_g ∧ Cond.selects mX6_hasAllFields.1.cls mX6_hasAllFields.1 mX6_hasAllFields.1 ∈ lw_g := ⟨h_t5 197 rfl rfl, h_ins 53 rfl⟩
theorem dX6_holds_54 : decode cX6_holds 54 = .ok (.invokevirtual 175, 3) := by decide +kernel
theorem dX6_holds_57 : decode cX6_holds 57 = .ok (.ireturn, 1) := by decide +kernel
theorem dX6_holds_58 : decode cX6_holds 58 = .ok (.aload_n 1, 1) := by decide +kernel
theorem fX6_179 : h_fl RX6 179 3 12 RX3 TX3 15 := ⟨rfl, by decide, inX3, h_t1 182 rfl rfl⟩
theorem dX6_holds_59 : decode cX6_holds 59 = .ok (.getfield 179, 3) := by decide +kernel
theorem dX6_holds_62 : decode cX6_holds 62 = .ok (.ifCond .eq 25, 3) := by decide +kernel
theorem dX6_holds_87 : decode cX6_holds 87 = .ok (.aload_n 0, 1) := by decide +kernel
theorem dX6_holds_88 : decode cX6_holds 88 = .ok (.getfield 27, 3) := by decide +kernel
theorem fX6_43 : h_fl RX6 43 0 3 RX0 TX0 12 := ⟨rfl, by decide, inX0, h_t2 174 rfl rfl⟩
theorem dX6_holds_91 : decode cX6_holds 91 = .ok (.getfield 43, 3) := by decide +kernel
theorem dX6_holds_94 : decode cX6_holds 94 = .ok (.aload_n 1, 1) := by decide +kernel
theorem fX6_183 : h_fl RX6 183 3 10 RX3 TX3 15 := ⟨rfl, by decide, inX3, h_t1 176 rfl rfl⟩
theorem dX6_holds_95 : decode cX6_holds 95 = .ok (.getfield 183, 3) := by decide +kernel
theorem dX6_holds_98 : decode cX6_holds 98 = .ok (.if_icmp .ge 7, 3) := by decide +kernel
theorem dX6_holds_105 : decode cX6_holds 105 = .ok (.iconst 0, 1) := by decide +kernel
theorem dX6_holds_106 : decode cX6_holds 106 = .ok (.ireturn, 1) := by decide +kernel
theorem dX6_holds_101 : decode cX6_holds 101 = .ok (.iconst 1, 1) := by decide +kernel
theorem dX6_holds_102 : decode cX6_holds 102 = .ok (.goto 4, 3) := by decide +kernel
theorem dX6_holds_65 : decode cX6_holds 65 = .ok (.aload_n 0, 1) := by decide +kernel
theorem dX6_holds_66 : decode cX6_holds 66 = .ok (.getfield 27, 3) := by decide +kernel
theorem dX6_holds_69 : decode cX6_holds 69 = .ok (.getfield 43, 3) := by decide +kernel
theorem dX6_holds_72 : decode cX6_holds 72 = .ok (.aload_n 1, 1) := by decide +kernel
theorem dX6_holds_73 : decode cX6_holds 73 = .ok (.getfield 183, 3) := by decide +kernel
theorem dX6_holds_76 : decode cX6_holds 76 = .ok (.if_icmp .le 7, 3) := by decide +kernel
theorem dX6_holds_83 : decode cX6_holds 83 = .ok (.iconst 0, 1) := by decide +kernel
theorem dX6_holds_84 : decode cX6_holds 84 = .ok (.goto 22, 3) := by decide +kernel
theorem dX6_holds_79 : decode cX6_holds 79 = .ok (.iconst 1, 1) := by decide +kernel
theorem dX6_holds_80 : decode cX6_holds 80 = .ok (.goto 26, 3) := by decide +kernel
theorem dX6_holds_107 : decode cX6_holds 107 = .ok (.aload_n 1, 1) := by decide +kernel
theorem fX6_186 : h_fl RX6 186 3 6 RX3 TX3 15 := ⟨rfl, by decide, inX3, h_t1 166 rfl rfl⟩
theorem dX6_holds_108 : decode cX6_holds 108 = .ok (.getfield 186, 3) := by decide +kernel
theorem dX6_holds_111 : decode cX6_holds 111 = .ok (.iconst 3, 1) := by decide +kernel
theorem dX6_holds_112 : decode cX6_holds 112 = .ok (.if_icmp .ne 9, 3) := by decide +kernel
theorem dX6_holds_121 : decode cX6_holds 121 = .ok (.iconst 0, 1) := by decide +kernel
theorem dX6_holds_122 : decode cX6_holds 122 = .ok (.istore_n 2, 1) := by decide +kernel
theorem dX6_holds_115 : decode cX6_holds 115 = .ok (.aload_n 0, 1) := by decide +kernel
theorem dX6_holds_116 : decode cX6_holds 116 = .ok (.aload_n 1, 1) := by decide +kernel
theorem kX6_isCount : h_ml mX6_isCount 1 := ⟨h_t5 202 rfl rfl, h_t1 14 rfl rfl, ⟨by decide, by decide, by decide +kernel⟩, by decide⟩
theorem lX6_189 : Cond.methodLink RX6 189 mX6_isCount.1 ∈ lw_g := h_t5 199 rfl rfl
theorem sX6_isCount : Cond.instanceMethod mX6_isCount.1 ∈ lw_g ∧ Cond.selects mX6_isCount.1.cls mX6_isCount.1 mX6_isCount.1 ∈ lw_g := ⟨h_t5 201 rfl rfl, h_ins 54 rfl⟩
theorem dX6_holds_117 : decode cX6_holds 117 = .ok (.invokevirtual 189, 3) := by decide +kernel
theorem dX6_holds_120 : decode cX6_holds 120 = .ok (.ireturn, 1) := by decide +kernel
theorem dX6_holds_48 : decode cX6_holds 48 = .ok (.iconst 1, 1) := by decide +kernel
theorem dX6_holds_49 : decode cX6_holds 49 = .ok (.ireturn, 1) := by decide +kernel
theorem dX6_holds_50 : decode cX6_holds 50 = .ok (.iconst 0, 1) := by decide +kernel
theorem dX6_holds_51 : decode cX6_holds 51 = .ok (.ireturn, 1) := by decide +kernel
def fb_X6_holds_136 (K123 : Nat → Int32 → uS → Option (uS × Bool)) (K136 : Nat → Int32 → Int32 → uS → Option (uS × Bool)) (k1 : Nat) (x2 : Int32) (x3 : Int32) (s : uS) : Option (uS × Bool) := (iget 20 s (k1 + 2) 1).bind fun v1 => if v1 ≤ x3 then (K123 k1 (x2 + 1) s) else ((iget 20 s (k1 + 1) 1).bind fun v4 => (fn_X3_isMatch k1 1062 x2 8 (v4 + x3) s).bind fun v6 => if v6 = true then (some (s, true)) else (K136 k1 x2 (x3 + 1) s))
set_option maxRecDepth 100000 in
set_option maxHeartbeats 4000000 in
theorem xb_X6_holds_136 {l : Launch} {D : va_G} {A : Nat → ClassId} {B : Nat} {Z : State → Heap → Prop} {vF : Value} (uk : uK B Z vF) {K123 : Nat → Int32 → uS → Option (uS × Bool)} {K136 : Nat → Int32 → Int32 → uS → Option (uS × Bool)} (hK123 : ∀ (k1 : Nat) (x2 : Int32) (hk1 : uSo k1 3) (s : uS) (r : (uS × Bool)), K123 k1 x2 s = some r → GU l D A B Z mX6_holds 3 (r.1, some (.int (bI r.2))) s 123 [(0, .ref (B + 1053)), (1, .ref (B + k1)), (2, .int x2)] []) (hK136 : ∀ (k1 : Nat) (x2 : Int32) (x3 : Int32) (hk1 : uSo k1 3) (s : uS) (r : (uS × Bool)), K136 k1 x2 x3 s = some r → GU l D A B Z mX6_holds 3 (r.1, some (.int (bI r.2))) s 136 [(0, .ref (B + 1053)), (1, .ref (B + k1)), (2, .int x2), (3, .int x3)] []) {k1 : Nat} {x2 : Int32} {x3 : Int32} {s : uS} {r : (uS × Bool)} (hk1 : uSo k1 3) (h : fb_X6_holds_136 K123 K136 k1 x2 x3 s = some r) : GU l D A B Z mX6_holds 3 (r.1, some (.int (bI r.2))) s 136 [(0, .ref (B + 1053)), (1, .ref (B + k1)), (2, .int x2), (3, .int x3)] [] := by
  unfold fb_X6_holds_136 at h
  refine uu_iload_n dX6_holds_136 rfl (List.mem_of_getElem? (i := 3) rfl) ?_
  refine uu_aload_n dX6_holds_137 rfl (List.mem_of_getElem? (i := 1) rfl) ?_
  refine uu_getc (ci := 3) (N := 15) fX6_140 (by decide) hk1.is (by decide) (c := 2) (by decide) (k2 := k1 + 2) rfl dX6_holds_138 ?_
  refine uu_iconst (v := 1) dX6_holds_141 (by decide) ?_
  obtain ⟨v1, e2, h⟩ := uu_ob h
  refine uu_iald e2 dX6_holds_142 ?_
  refine uu_icmp_ge (tgt := 178) dX6_holds_143 (by decide) (fun c3 => ?_) (fun c3 => ?_)
  · replace h := uu_pos c3 h
    refine uu_iinc (v := x2 + 1) dX6_holds_178 (k := 2) rfl rfl (by decide) rfl ?_
    refine uu_goto (tgt := 123) dX6_holds_181 (by decide) ?_
    refine uu_lv [1, 2, 0] (lv' := [(0, .ref (B + 1053)), (1, .ref (B + k1)), (2, .int (x2 + 1))]) rfl ?_
    exact hK123 k1 (x2 + 1) hk1 _ _ h
  · replace h := uu_neg c3 h
    refine uu_aload_n dX6_holds_146 rfl (List.mem_of_getElem? (i := 1) rfl) ?_
    refine uu_aload_n dX6_holds_147 rfl (List.mem_of_getElem? (i := 0) rfl) ?_
    refine uu_geta (ci := 6) (N := 6) fX6_21 (by decide) so_1053.is (by decide) (c := 1062) (by decide) dX6_holds_148 ?_
    refine uu_iload_n dX6_holds_151 rfl (List.mem_of_getElem? (i := 2) rfl) ?_
    refine uu_aload_n dX6_holds_152 rfl (List.mem_of_getElem? (i := 0) rfl) ?_
    refine uu_geta (ci := 6) (N := 6) fX6_31 (by decide) so_1053.is (by decide) (c := 8) (by decide) dX6_holds_153 ?_
    refine uu_aload_n dX6_holds_156 rfl (List.mem_of_getElem? (i := 1) rfl) ?_
    refine uu_getc (ci := 3) (N := 15) fX6_137 (by decide) hk1.is (by decide) (c := 1) (by decide) (k2 := k1 + 1) rfl dX6_holds_157 ?_
    refine uu_iconst (v := 1) dX6_holds_160 (by decide) ?_
    obtain ⟨v4, e5, h⟩ := uu_ob h
    refine uu_iald e5 dX6_holds_161 ?_
    refine uu_iload_n dX6_holds_162 rfl (List.mem_of_getElem? (i := 3) rfl) ?_
    refine uu_iadd dX6_holds_163 ?_
    obtain ⟨v6, e7, h⟩ := uu_ob h
    refine uu_cv (d1 := 2) (k := k1) (ci := 3) (T := TX3) (N := 15) (As := [.ref (B + 1062), .int x2, .ref (B + 8), .int (v4 + x3)]) (st := []) (st' := [.int (bI v6)]) (xc_X3_isMatch uk hk1 so_1062 so_8 e7) hk1.is (by decide) rfl kX3_isMatch lX6_192 sX3_isMatch (by decide) (Nat.le_of_ble_eq_true rfl) dX6_holds_164 rfl ?_
    refine uu_ifb_eq (tgt := 172) dX6_holds_167 (by decide) (fun c8 => ?_) (fun c8 => ?_)
    · replace h := uu_neg c8 h
      refine uu_iinc (v := x3 + 1) dX6_holds_172 (k := 3) rfl rfl (by decide) rfl ?_
      refine uu_goto (tgt := 136) dX6_holds_175 (by decide) ?_
      refine uu_lv [1, 2, 3, 0] (lv' := [(0, .ref (B + 1053)), (1, .ref (B + k1)), (2, .int x2), (3, .int (x3 + 1))]) rfl ?_
      exact hK136 k1 x2 (x3 + 1) hk1 _ _ h
    · replace h := uu_pos c8 h
      refine uu_iconst (v := 1) dX6_holds_170 (by decide) ?_
      have hr := Option.some.inj h
      subst hr
      exact uu_zret (x := bI true) rfl (bI_z _) dX6_holds_171
def fn_X6_holds_136 (K123 : Nat → Int32 → uS → Option (uS × Bool)) : Nat → Nat → Int32 → Int32 → uS → Option (uS × Bool)
  | 0 => fun _ _ _ _ => none
  | n + 1 => fb_X6_holds_136 K123 (fn_X6_holds_136 K123 n)
set_option maxRecDepth 100000 in
set_option maxHeartbeats 4000000 in
theorem xn_X6_holds_136 {l : Launch} {D : va_G} {A : Nat → ClassId} {B : Nat} {Z : State → Heap → Prop} {vF : Value} (uk : uK B Z vF) {K123 : Nat → Int32 → uS → Option (uS × Bool)} (hK123 : ∀ (k1 : Nat) (x2 : Int32) (hk1 : uSo k1 3) (s : uS) (r : (uS × Bool)), K123 k1 x2 s = some r → GU l D A B Z mX6_holds 3 (r.1, some (.int (bI r.2))) s 123 [(0, .ref (B + 1053)), (1, .ref (B + k1)), (2, .int x2)] []) : ∀ (n : Nat) (k1 : Nat) (x2 : Int32) (x3 : Int32) (hk1 : uSo k1 3) (s : uS) (r : (uS × Bool)), fn_X6_holds_136 K123 n k1 x2 x3 s = some r → GU l D A B Z mX6_holds 3 (r.1, some (.int (bI r.2))) s 136 [(0, .ref (B + 1053)), (1, .ref (B + k1)), (2, .int x2), (3, .int x3)] [] := by
  intro n
  induction n with
  | zero => intro k1 x2 x3 hk1 s r h
            cases h
  | succ n ih => intro k1 x2 x3 hk1 s r h
                 exact xb_X6_holds_136 uk hK123 ih hk1 h
def fb_X6_holds_123 (K123 : Nat → Int32 → uS → Option (uS × Bool)) (k1 : Nat) (x2 : Int32) (s : uS) : Option (uS × Bool) := if (s.I 1062 3) ≤ x2 then (some (s, false)) else (fn_X6_holds_136 K123 uFu k1 x2 0 s)
set_option maxRecDepth 100000 in
set_option maxHeartbeats 4000000 in
theorem xb_X6_holds_123 {l : Launch} {D : va_G} {A : Nat → ClassId} {B : Nat} {Z : State → Heap → Prop} {vF : Value} (uk : uK B Z vF) {K123 : Nat → Int32 → uS → Option (uS × Bool)} (hK123 : ∀ (k1 : Nat) (x2 : Int32) (hk1 : uSo k1 3) (s : uS) (r : (uS × Bool)), K123 k1 x2 s = some r → GU l D A B Z mX6_holds 3 (r.1, some (.int (bI r.2))) s 123 [(0, .ref (B + 1053)), (1, .ref (B + k1)), (2, .int x2)] []) {k1 : Nat} {x2 : Int32} {s : uS} {r : (uS × Bool)} (hk1 : uSo k1 3) (h : fb_X6_holds_123 K123 k1 x2 s = some r) : GU l D A B Z mX6_holds 3 (r.1, some (.int (bI r.2))) s 123 [(0, .ref (B + 1053)), (1, .ref (B + k1)), (2, .int x2)] [] := by
  unfold fb_X6_holds_123 at h
  refine uu_iload_n dX6_holds_123 rfl (List.mem_of_getElem? (i := 2) rfl) ?_
  refine uu_aload_n dX6_holds_124 rfl (List.mem_of_getElem? (i := 0) rfl) ?_
  refine uu_geta (ci := 6) (N := 6) fX6_21 (by decide) so_1053.is (by decide) (c := 1062) (by decide) dX6_holds_125 ?_
  refine uu_geti (ci := 9) (N := 6) fX6_62 (by decide) so_1062.is (by decide) (by decide) dX6_holds_128 ?_
  refine uu_icmp_ge (tgt := 184) dX6_holds_131 (by decide) (fun c1 => ?_) (fun c1 => ?_)
  · replace h := uu_pos c1 h
    refine uu_iconst (v := 0) dX6_holds_184 (by decide) ?_
    have hr := Option.some.inj h
    subst hr
    exact uu_zret (x := bI false) rfl (bI_z _) dX6_holds_185
  · replace h := uu_neg c1 h
    refine uu_iconst (v := 0) dX6_holds_134 (by decide) ?_
    refine uu_istore_n dX6_holds_135 rfl (by decide) rfl ?_
    refine uu_lv [1, 2, 3, 0] (lv' := [(0, .ref (B + 1053)), (1, .ref (B + k1)), (2, .int x2), (3, .int 0)]) rfl ?_
    exact xn_X6_holds_136 uk hK123 _ _ _ _ hk1 _ _ h
def fn_X6_holds_123  : Nat → Nat → Int32 → uS → Option (uS × Bool)
  | 0 => fun _ _ _ => none
  | n + 1 => fb_X6_holds_123 (fn_X6_holds_123  n)
set_option maxRecDepth 100000 in
set_option maxHeartbeats 4000000 in
theorem xn_X6_holds_123 {l : Launch} {D : va_G} {A : Nat → ClassId} {B : Nat} {Z : State → Heap → Prop} {vF : Value} (uk : uK B Z vF)   : ∀ (n : Nat) (k1 : Nat) (x2 : Int32) (hk1 : uSo k1 3) (s : uS) (r : (uS × Bool)), fn_X6_holds_123  n k1 x2 s = some r → GU l D A B Z mX6_holds 3 (r.1, some (.int (bI r.2))) s 123 [(0, .ref (B + 1053)), (1, .ref (B + k1)), (2, .int x2)] [] := by
  intro n
  induction n with
  | zero => intro k1 x2 hk1 s r h
            cases h
  | succ n ih => intro k1 x2 hk1 s r h
                 exact xb_X6_holds_123 uk ih hk1 h
def fn_X6_holds (k1 : Nat) (s : uS) : Option (uS × Bool) := if (s.I k1 0) = 15 then ((fn_X6_hasAllFields k1 s).bind fun v1 => some (s, v1)) else (if (s.I k1 0) = 16 then (if (s.I k1 12) = 0 then (if (s.I k1 10) ≤ (s.I 1042 3) then (some (s, false)) else (some (s, true))) else (if (s.I 1042 3) ≤ (s.I k1 10) then (some (s, false)) else (some (s, true)))) else (if (s.I k1 0) = 17 then (if (s.I k1 6) = 3 then ((fn_X6_isCount k1 s).bind fun r7 => some (r7.1, r7.2)) else (fn_X6_holds_123 uFu k1 0 s)) else (if (s.I k1 0) = 18 then (if (s.I k1 6) = 3 then ((fn_X6_isCount k1 s).bind fun r10 => some (r10.1, r10.2)) else (fn_X6_holds_123 uFu k1 0 s)) else (if (s.I k1 0) = 19 then (if (s.I k1 6) = 3 then ((fn_X6_isCount k1 s).bind fun r13 => some (r13.1, r13.2)) else (fn_X6_holds_123 uFu k1 0 s)) else (if (s.I k1 0) = 20 then (some (s, true)) else (if (s.I k1 0) = 21 then (some (s, false)) else (if (s.I k1 6) = 3 then ((fn_X6_isCount k1 s).bind fun r16 => some (r16.1, r16.2)) else (fn_X6_holds_123 uFu k1 0 s))))))))
set_option maxRecDepth 100000 in
set_option maxHeartbeats 4000000 in
theorem xc_X6_holds {l : Launch} {D : va_G} {A : Nat → ClassId} {B : Nat} {Z : State → Heap → Prop} {vF : Value} (uk : uK B Z vF) {k1 : Nat} {s : uS} {r : (uS × Bool)} (hk1 : uSo k1 3) (h : fn_X6_holds k1 s = some r) : CU l D A B Z 3 mX6_holds s [.ref (B + 1053), .ref (B + k1)] (r.1, some (.int (bI r.2))) := by
  unfold fn_X6_holds at h
  refine cu_of rfl uk.1.1 (Nat.le_of_ble_eq_true rfl) ?_
  show GU _ _ _ _ _ _ _ _ _ 0 [(0, .ref (B + 1053)), (1, .ref (B + k1))] []
  refine uu_aload_n dX6_holds_0 rfl (List.mem_of_getElem? (i := 1) rfl) ?_
  refine uu_geti (ci := 3) (N := 15) fX6_102 (by decide) hk1.is (by decide) (by decide) dX6_holds_1 ?_
  by_cases c4_0 : (s.I k1 0) = 15
  · replace h := uu_pos c4_0 h
    refine uu_tabE (tgt := 52) (off := 48) (v := 15) dX6_holds_4 c4_0 (by decide) (by decide) rfl (by decide) ?_
    refine uu_aload_n dX6_holds_52 rfl (List.mem_of_getElem? (i := 0) rfl) ?_
    refine uu_aload_n dX6_holds_53 rfl (List.mem_of_getElem? (i := 1) rfl) ?_
    obtain ⟨v1, e2, h⟩ := uu_ob h
    refine uu_cv (d1 := 2) (k := 1053) (ci := 6) (T := TX6) (N := 6) (As := [.ref (B + k1)]) (st := []) (st' := [.int (bI v1)]) (xc_X6_hasAllFields uk hk1 e2) so_1053.is (by decide) rfl kX6_hasAllFields lX6_175 sX6_hasAllFields (by decide) (Nat.le_of_ble_eq_true rfl) dX6_holds_54 rfl ?_
    have hr := Option.some.inj h
    subst hr
    exact uu_zret (x := bI v1) rfl (bI_z _) dX6_holds_57
  replace h := uu_neg c4_0 h
  by_cases c4_1 : (s.I k1 0) = 16
  · replace h := uu_pos c4_1 h
    refine uu_tabE (tgt := 58) (off := 54) (v := 16) dX6_holds_4 c4_1 (by decide) (by decide) rfl (by decide) ?_
    refine uu_aload_n dX6_holds_58 rfl (List.mem_of_getElem? (i := 1) rfl) ?_
    refine uu_geti (ci := 3) (N := 15) fX6_179 (by decide) hk1.is (by decide) (by decide) dX6_holds_59 ?_
    refine uu_if_eq (tgt := 87) dX6_holds_62 (by decide) (fun c3 => ?_) (fun c3 => ?_)
    · replace h := uu_pos c3 h
      refine uu_aload_n dX6_holds_87 rfl (List.mem_of_getElem? (i := 0) rfl) ?_
      refine uu_geta (ci := 6) (N := 6) fX6_27 (by decide) so_1053.is (by decide) (c := 1042) (by decide) dX6_holds_88 ?_
      refine uu_geti (ci := 0) (N := 12) fX6_43 (by decide) so_1042.is (by decide) (by decide) dX6_holds_91 ?_
      refine uu_aload_n dX6_holds_94 rfl (List.mem_of_getElem? (i := 1) rfl) ?_
      refine uu_geti (ci := 3) (N := 15) fX6_183 (by decide) hk1.is (by decide) (by decide) dX6_holds_95 ?_
      refine uu_icmp_ge (tgt := 105) dX6_holds_98 (by decide) (fun c4 => ?_) (fun c4 => ?_)
      · replace h := uu_pos c4 h
        refine uu_iconst (v := 0) dX6_holds_105 (by decide) ?_
        have hr := Option.some.inj h
        subst hr
        exact uu_zret (x := bI false) rfl (bI_z _) dX6_holds_106
      · replace h := uu_neg c4 h
        refine uu_iconst (v := 1) dX6_holds_101 (by decide) ?_
        refine uu_goto (tgt := 106) dX6_holds_102 (by decide) ?_
        have hr := Option.some.inj h
        subst hr
        exact uu_zret (x := bI true) rfl (bI_z _) dX6_holds_106
    · replace h := uu_neg c3 h
      refine uu_aload_n dX6_holds_65 rfl (List.mem_of_getElem? (i := 0) rfl) ?_
      refine uu_geta (ci := 6) (N := 6) fX6_27 (by decide) so_1053.is (by decide) (c := 1042) (by decide) dX6_holds_66 ?_
      refine uu_geti (ci := 0) (N := 12) fX6_43 (by decide) so_1042.is (by decide) (by decide) dX6_holds_69 ?_
      refine uu_aload_n dX6_holds_72 rfl (List.mem_of_getElem? (i := 1) rfl) ?_
      refine uu_geti (ci := 3) (N := 15) fX6_183 (by decide) hk1.is (by decide) (by decide) dX6_holds_73 ?_
      refine uu_icmp_le (tgt := 83) dX6_holds_76 (by decide) (fun c5 => ?_) (fun c5 => ?_)
      · replace h := uu_pos c5 h
        refine uu_iconst (v := 0) dX6_holds_83 (by decide) ?_
        refine uu_goto (tgt := 106) dX6_holds_84 (by decide) ?_
        have hr := Option.some.inj h
        subst hr
        exact uu_zret (x := bI false) rfl (bI_z _) dX6_holds_106
      · replace h := uu_neg c5 h
        refine uu_iconst (v := 1) dX6_holds_79 (by decide) ?_
        refine uu_goto (tgt := 106) dX6_holds_80 (by decide) ?_
        have hr := Option.some.inj h
        subst hr
        exact uu_zret (x := bI true) rfl (bI_z _) dX6_holds_106
  replace h := uu_neg c4_1 h
  by_cases c4_2 : (s.I k1 0) = 17
  · replace h := uu_pos c4_2 h
    refine uu_tabE (tgt := 107) (off := 103) (v := 17) dX6_holds_4 c4_2 (by decide) (by decide) rfl (by decide) ?_
    refine uu_aload_n dX6_holds_107 rfl (List.mem_of_getElem? (i := 1) rfl) ?_
    refine uu_geti (ci := 3) (N := 15) fX6_186 (by decide) hk1.is (by decide) (by decide) dX6_holds_108 ?_
    refine uu_iconst (v := 3) dX6_holds_111 (by decide) ?_
    refine uu_icmp_ne (tgt := 121) dX6_holds_112 (by decide) (fun c6 => ?_) (fun c6 => ?_)
    · replace h := uu_neg c6 h
      refine uu_iconst (v := 0) dX6_holds_121 (by decide) ?_
      refine uu_istore_n dX6_holds_122 rfl (by decide) rfl ?_
      refine uu_lv [1, 2, 0] (lv' := [(0, .ref (B + 1053)), (1, .ref (B + k1)), (2, .int 0)]) rfl ?_
      exact xn_X6_holds_123 uk  _ _ _ hk1 _ _ h
    · replace h := uu_pos c6 h
      refine uu_aload_n dX6_holds_115 rfl (List.mem_of_getElem? (i := 0) rfl) ?_
      refine uu_aload_n dX6_holds_116 rfl (List.mem_of_getElem? (i := 1) rfl) ?_
      obtain ⟨r7, e8, h⟩ := uu_ob h
      refine uu_cv (d1 := 2) (k := 1053) (ci := 6) (T := TX6) (N := 6) (As := [.ref (B + k1)]) (st := []) (st' := [.int (bI r7.2)]) (xc_X6_isCount uk hk1 e8) so_1053.is (by decide) rfl kX6_isCount lX6_189 sX6_isCount (by decide) (Nat.le_of_ble_eq_true rfl) dX6_holds_117 rfl ?_
      have hr := Option.some.inj h
      subst hr
      exact uu_zret (x := bI r7.2) rfl (bI_z _) dX6_holds_120
  replace h := uu_neg c4_2 h
  by_cases c4_3 : (s.I k1 0) = 18
  · replace h := uu_pos c4_3 h
    refine uu_tabE (tgt := 107) (off := 103) (v := 18) dX6_holds_4 c4_3 (by decide) (by decide) rfl (by decide) ?_
    refine uu_aload_n dX6_holds_107 rfl (List.mem_of_getElem? (i := 1) rfl) ?_
    refine uu_geti (ci := 3) (N := 15) fX6_186 (by decide) hk1.is (by decide) (by decide) dX6_holds_108 ?_
    refine uu_iconst (v := 3) dX6_holds_111 (by decide) ?_
    refine uu_icmp_ne (tgt := 121) dX6_holds_112 (by decide) (fun c9 => ?_) (fun c9 => ?_)
    · replace h := uu_neg c9 h
      refine uu_iconst (v := 0) dX6_holds_121 (by decide) ?_
      refine uu_istore_n dX6_holds_122 rfl (by decide) rfl ?_
      refine uu_lv [1, 2, 0] (lv' := [(0, .ref (B + 1053)), (1, .ref (B + k1)), (2, .int 0)]) rfl ?_
      exact xn_X6_holds_123 uk  _ _ _ hk1 _ _ h
    · replace h := uu_pos c9 h
      refine uu_aload_n dX6_holds_115 rfl (List.mem_of_getElem? (i := 0) rfl) ?_
      refine uu_aload_n dX6_holds_116 rfl (List.mem_of_getElem? (i := 1) rfl) ?_
      obtain ⟨r10, e11, h⟩ := uu_ob h
      refine uu_cv (d1 := 2) (k := 1053) (ci := 6) (T := TX6) (N := 6) (As := [.ref (B + k1)]) (st := []) (st' := [.int (bI r10.2)]) (xc_X6_isCount uk hk1 e11) so_1053.is (by decide) rfl kX6_isCount lX6_189 sX6_isCount (by decide) (Nat.le_of_ble_eq_true rfl) dX6_holds_117 rfl ?_
      have hr := Option.some.inj h
      subst hr
      exact uu_zret (x := bI r10.2) rfl (bI_z _) dX6_holds_120
  replace h := uu_neg c4_3 h
  by_cases c4_4 : (s.I k1 0) = 19
  · replace h := uu_pos c4_4 h
    refine uu_tabE (tgt := 107) (off := 103) (v := 19) dX6_holds_4 c4_4 (by decide) (by decide) rfl (by decide) ?_
    refine uu_aload_n dX6_holds_107 rfl (List.mem_of_getElem? (i := 1) rfl) ?_
    refine uu_geti (ci := 3) (N := 15) fX6_186 (by decide) hk1.is (by decide) (by decide) dX6_holds_108 ?_
    refine uu_iconst (v := 3) dX6_holds_111 (by decide) ?_
    refine uu_icmp_ne (tgt := 121) dX6_holds_112 (by decide) (fun c12 => ?_) (fun c12 => ?_)
    · replace h := uu_neg c12 h
      refine uu_iconst (v := 0) dX6_holds_121 (by decide) ?_
      refine uu_istore_n dX6_holds_122 rfl (by decide) rfl ?_
      refine uu_lv [1, 2, 0] (lv' := [(0, .ref (B + 1053)), (1, .ref (B + k1)), (2, .int 0)]) rfl ?_
      exact xn_X6_holds_123 uk  _ _ _ hk1 _ _ h
    · replace h := uu_pos c12 h
      refine uu_aload_n dX6_holds_115 rfl (List.mem_of_getElem? (i := 0) rfl) ?_
      refine uu_aload_n dX6_holds_116 rfl (List.mem_of_getElem? (i := 1) rfl) ?_
      obtain ⟨r13, e14, h⟩ := uu_ob h
      refine uu_cv (d1 := 2) (k := 1053) (ci := 6) (T := TX6) (N := 6) (As := [.ref (B + k1)]) (st := []) (st' := [.int (bI r13.2)]) (xc_X6_isCount uk hk1 e14) so_1053.is (by decide) rfl kX6_isCount lX6_189 sX6_isCount (by decide) (Nat.le_of_ble_eq_true rfl) dX6_holds_117 rfl ?_
      have hr := Option.some.inj h
      subst hr
      exact uu_zret (x := bI r13.2) rfl (bI_z _) dX6_holds_120
  replace h := uu_neg c4_4 h
  by_cases c4_5 : (s.I k1 0) = 20
  · replace h := uu_pos c4_5 h
    refine uu_tabE (tgt := 48) (off := 44) (v := 20) dX6_holds_4 c4_5 (by decide) (by decide) rfl (by decide) ?_
    refine uu_iconst (v := 1) dX6_holds_48 (by decide) ?_
    have hr := Option.some.inj h
    subst hr
    exact uu_zret (x := bI true) rfl (bI_z _) dX6_holds_49
  replace h := uu_neg c4_5 h
  by_cases c4_6 : (s.I k1 0) = 21
  · replace h := uu_pos c4_6 h
    refine uu_tabE (tgt := 50) (off := 46) (v := 21) dX6_holds_4 c4_6 (by decide) (by decide) rfl (by decide) ?_
    refine uu_iconst (v := 0) dX6_holds_50 (by decide) ?_
    have hr := Option.some.inj h
    subst hr
    exact uu_zret (x := bI false) rfl (bI_z _) dX6_holds_51
  replace h := uu_neg c4_6 h
  have cx4 : (s.I k1 0).toInt < 15 ∨ 21 < (s.I k1 0).toInt := by
    refine Decidable.byContradiction fun q => ?_
    rcases (show (s.I k1 0).toInt = 15 ∨ (s.I k1 0).toInt = 16 ∨ (s.I k1 0).toInt = 17 ∨ (s.I k1 0).toInt = 18 ∨ (s.I k1 0).toInt = 19 ∨ (s.I k1 0).toInt = 20 ∨ (s.I k1 0).toInt = 21 by omega) with q | q | q | q | q | q | q
    · exact c4_0 (sw_eq q (by decide))
    · exact c4_1 (sw_eq q (by decide))
    · exact c4_2 (sw_eq q (by decide))
    · exact c4_3 (sw_eq q (by decide))
    · exact c4_4 (sw_eq q (by decide))
    · exact c4_5 (sw_eq q (by decide))
    · exact c4_6 (sw_eq q (by decide))
  refine uu_tableOut (tgt := 107) dX6_holds_4 cx4 (by decide) ?_
  refine uu_aload_n dX6_holds_107 rfl (List.mem_of_getElem? (i := 1) rfl) ?_
  refine uu_geti (ci := 3) (N := 15) fX6_186 (by decide) hk1.is (by decide) (by decide) dX6_holds_108 ?_
  refine uu_iconst (v := 3) dX6_holds_111 (by decide) ?_
  refine uu_icmp_ne (tgt := 121) dX6_holds_112 (by decide) (fun c15 => ?_) (fun c15 => ?_)
  · replace h := uu_neg c15 h
    refine uu_iconst (v := 0) dX6_holds_121 (by decide) ?_
    refine uu_istore_n dX6_holds_122 rfl (by decide) rfl ?_
    refine uu_lv [1, 2, 0] (lv' := [(0, .ref (B + 1053)), (1, .ref (B + k1)), (2, .int 0)]) rfl ?_
    exact xn_X6_holds_123 uk  _ _ _ hk1 _ _ h
  · replace h := uu_pos c15 h
    refine uu_aload_n dX6_holds_115 rfl (List.mem_of_getElem? (i := 0) rfl) ?_
    refine uu_aload_n dX6_holds_116 rfl (List.mem_of_getElem? (i := 1) rfl) ?_
    obtain ⟨r16, e17, h⟩ := uu_ob h
    refine uu_cv (d1 := 2) (k := 1053) (ci := 6) (T := TX6) (N := 6) (As := [.ref (B + k1)]) (st := []) (st' := [.int (bI r16.2)]) (xc_X6_isCount uk hk1 e17) so_1053.is (by decide) rfl kX6_isCount lX6_189 sX6_isCount (by decide) (Nat.le_of_ble_eq_true rfl) dX6_holds_117 rfl ?_
    have hr := Option.some.inj h
    subst hr
    exact uu_zret (x := bI r16.2) rfl (bI_z _) dX6_holds_120
abbrev mX6_fieldNamed : hM := (yX6_fieldNamed, cX6_fieldNamed, 3, (some (.int)))
theorem dX6_fieldNamed_2 : decode cX6_fieldNamed 2 = .ok (.iload_n 2, 1) := by decide +kernel
theorem dX6_fieldNamed_3 : decode cX6_fieldNamed 3 = .ok (.aload_n 0, 1) := by decide +kernel
theorem dX6_fieldNamed_4 : decode cX6_fieldNamed 4 = .ok (.getfield 14, 3) := by decide +kernel
theorem dX6_fieldNamed_7 : decode cX6_fieldNamed 7 = .ok (.getfield 62, 3) := by decide +kernel
theorem dX6_fieldNamed_10 : decode cX6_fieldNamed 10 = .ok (.if_icmp .ge 43, 3) := by decide +kernel
theorem dX6_fieldNamed_53 : decode cX6_fieldNamed 53 = .ok (.iconst (-1), 1) := by decide +kernel
theorem dX6_fieldNamed_54 : decode cX6_fieldNamed 54 = .ok (.ireturn, 1) := by decide +kernel
theorem dX6_fieldNamed_13 : decode cX6_fieldNamed 13 = .ok (.aload_n 1, 1) := by decide +kernel
theorem dX6_fieldNamed_14 : decode cX6_fieldNamed 14 = .ok (.aload_n 0, 1) := by decide +kernel
theorem dX6_fieldNamed_15 : decode cX6_fieldNamed 15 = .ok (.getfield 14, 3) := by decide +kernel
theorem dX6_fieldNamed_18 : decode cX6_fieldNamed 18 = .ok (.getfield 82, 3) := by decide +kernel
theorem dX6_fieldNamed_21 : decode cX6_fieldNamed 21 = .ok (.aload_n 0, 1) := by decide +kernel
theorem dX6_fieldNamed_22 : decode cX6_fieldNamed 22 = .ok (.getfield 14, 3) := by decide +kernel
theorem dX6_fieldNamed_25 : decode cX6_fieldNamed 25 = .ok (.getfield 79, 3) := by decide +kernel
theorem dX6_fieldNamed_28 : decode cX6_fieldNamed 28 = .ok (.iload_n 2, 1) := by decide +kernel
theorem dX6_fieldNamed_29 : decode cX6_fieldNamed 29 = .ok (.iaload, 1) := by decide +kernel
theorem dX6_fieldNamed_30 : decode cX6_fieldNamed 30 = .ok (.aload_n 0, 1) := by decide +kernel
theorem dX6_fieldNamed_31 : decode cX6_fieldNamed 31 = .ok (.getfield 14, 3) := by decide +kernel
theorem dX6_fieldNamed_34 : decode cX6_fieldNamed 34 = .ok (.getfield 75, 3) := by decide +kernel
theorem dX6_fieldNamed_37 : decode cX6_fieldNamed 37 = .ok (.iload_n 2, 1) := by decide +kernel
theorem dX6_fieldNamed_38 : decode cX6_fieldNamed 38 = .ok (.iaload, 1) := by decide +kernel
theorem lX6_149 : Cond.methodLink RX6 149 mX9_place.1 ∈ lw_g := h_t5 174 rfl rfl
theorem dX6_fieldNamed_39 : decode cX6_fieldNamed 39 = .ok (.invokestatic 149, 3) := by decide +kernel
theorem dX6_fieldNamed_42 : decode cX6_fieldNamed 42 = .ok (.ifCond .lt 5, 3) := by decide +kernel
theorem dX6_fieldNamed_47 : decode cX6_fieldNamed 47 = .ok (.iinc 2 1, 3) := by decide +kernel
theorem dX6_fieldNamed_50 : decode cX6_fieldNamed 50 = .ok (.goto (-48), 3) := by decide +kernel
theorem dX6_fieldNamed_45 : decode cX6_fieldNamed 45 = .ok (.iload_n 2, 1) := by decide +kernel
theorem dX6_fieldNamed_46 : decode cX6_fieldNamed 46 = .ok (.ireturn, 1) := by decide +kernel
theorem dX6_fieldNamed_0 : decode cX6_fieldNamed 0 = .ok (.iconst 0, 1) := by decide +kernel
theorem dX6_fieldNamed_1 : decode cX6_fieldNamed 1 = .ok (.istore_n 2, 1) := by decide +kernel
def fb_X6_fieldNamed_2 (K2 : List Nat → Int32 → uS → Option Int32) (w1 : List Nat) (x2 : Int32) (s : uS) : Option Int32 := if (s.I 1054 3) ≤ x2 then (some (-1 : Int32)) else ((iget 20 s 1056 x2).bind fun v2 => (iget 20 s 1057 x2).bind fun v4 => (fn_X9_place w1 1055 v2 v4 s).bind fun v6 => if v6 < 0 then (K2 w1 (x2 + 1) s) else (some x2))
set_option maxRecDepth 100000 in
set_option maxHeartbeats 4000000 in
theorem xb_X6_fieldNamed_2 {l : Launch} {D : va_G} {A : Nat → ClassId} {B : Nat} {Z : State → Heap → Prop} {vF : Value} (uk : uK B Z vF) {K2 : List Nat → Int32 → uS → Option Int32} (hK2 : ∀ (w1 : List Nat) (x2 : Int32) {qw1 pw1 : Nat} (hw1 : uStr B Z qw1 pw1 w1) (s : uS) (r : Int32), K2 w1 x2 s = some r → GU l D A B Z mX6_fieldNamed 5 (s, some (.int r)) s 2 [(0, .ref (B + 1053)), (1, .ref qw1), (2, .int x2)] []) {w1 : List Nat} {x2 : Int32} {s : uS} {r : Int32} {qw1 pw1 : Nat} (hw1 : uStr B Z qw1 pw1 w1) (h : fb_X6_fieldNamed_2 K2 w1 x2 s = some r) : GU l D A B Z mX6_fieldNamed 5 (s, some (.int r)) s 2 [(0, .ref (B + 1053)), (1, .ref qw1), (2, .int x2)] [] := by
  unfold fb_X6_fieldNamed_2 at h
  refine uu_iload_n dX6_fieldNamed_2 rfl (List.mem_of_getElem? (i := 2) rfl) ?_
  refine uu_aload_n dX6_fieldNamed_3 rfl (List.mem_of_getElem? (i := 0) rfl) ?_
  refine uu_geta (ci := 6) (N := 6) fX6_14 (by decide) so_1053.is (by decide) (c := 1054) (by decide) dX6_fieldNamed_4 ?_
  refine uu_geti (ci := 9) (N := 6) fX6_62 (by decide) so_1054.is (by decide) (by decide) dX6_fieldNamed_7 ?_
  refine uu_icmp_ge (tgt := 53) dX6_fieldNamed_10 (by decide) (fun c1 => ?_) (fun c1 => ?_)
  · replace h := uu_pos c1 h
    refine uu_iconst (v := -1) dX6_fieldNamed_53 (by decide) ?_
    have hr := Option.some.inj h
    subst hr
    exact uu_iret rfl dX6_fieldNamed_54
  · replace h := uu_neg c1 h
    refine uu_aload_n dX6_fieldNamed_13 rfl (List.mem_of_getElem? (i := 1) rfl) ?_
    refine uu_aload_n dX6_fieldNamed_14 rfl (List.mem_of_getElem? (i := 0) rfl) ?_
    refine uu_geta (ci := 6) (N := 6) fX6_14 (by decide) so_1053.is (by decide) (c := 1054) (by decide) dX6_fieldNamed_15 ?_
    refine uu_getc (ci := 9) (N := 6) fX6_82 (by decide) so_1054.is (by decide) (c := 1) (by decide) (k2 := 1055) rfl dX6_fieldNamed_18 ?_
    refine uu_aload_n dX6_fieldNamed_21 rfl (List.mem_of_getElem? (i := 0) rfl) ?_
    refine uu_geta (ci := 6) (N := 6) fX6_14 (by decide) so_1053.is (by decide) (c := 1054) (by decide) dX6_fieldNamed_22 ?_
    refine uu_getc (ci := 9) (N := 6) fX6_79 (by decide) so_1054.is (by decide) (c := 2) (by decide) (k2 := 1056) rfl dX6_fieldNamed_25 ?_
    refine uu_iload_n dX6_fieldNamed_28 rfl (List.mem_of_getElem? (i := 2) rfl) ?_
    obtain ⟨v2, e3, h⟩ := uu_ob h
    refine uu_iald e3 dX6_fieldNamed_29 ?_
    refine uu_aload_n dX6_fieldNamed_30 rfl (List.mem_of_getElem? (i := 0) rfl) ?_
    refine uu_geta (ci := 6) (N := 6) fX6_14 (by decide) so_1053.is (by decide) (c := 1054) (by decide) dX6_fieldNamed_31 ?_
    refine uu_getc (ci := 9) (N := 6) fX6_75 (by decide) so_1054.is (by decide) (c := 3) (by decide) (k2 := 1057) rfl dX6_fieldNamed_34 ?_
    refine uu_iload_n dX6_fieldNamed_37 rfl (List.mem_of_getElem? (i := 2) rfl) ?_
    obtain ⟨v4, e5, h⟩ := uu_ob h
    refine uu_iald e5 dX6_fieldNamed_38 ?_
    obtain ⟨v6, e7, h⟩ := uu_ob h
    refine uu_cs (d1 := 4) (As := [.ref qw1, .ref (B + 1055), .int v2, .int v4]) (st := []) (st' := [.int v6]) (xc_X9_place uk hw1 e7) kX9_place lX6_149 sX9_place (by decide) (Nat.le_of_ble_eq_true rfl) dX6_fieldNamed_39 rfl ?_
    refine uu_if_lt (tgt := 47) dX6_fieldNamed_42 (by decide) (fun c8 => ?_) (fun c8 => ?_)
    · replace h := uu_pos c8 h
      refine uu_iinc (v := x2 + 1) dX6_fieldNamed_47 (k := 2) rfl rfl (by decide) rfl ?_
      refine uu_goto (tgt := 2) dX6_fieldNamed_50 (by decide) ?_
      refine uu_lv [1, 2, 0] (lv' := [(0, .ref (B + 1053)), (1, .ref qw1), (2, .int (x2 + 1))]) rfl ?_
      exact hK2 w1 (x2 + 1) hw1 _ _ h
    · replace h := uu_neg c8 h
      refine uu_iload_n dX6_fieldNamed_45 rfl (List.mem_of_getElem? (i := 2) rfl) ?_
      have hr := Option.some.inj h
      subst hr
      exact uu_iret rfl dX6_fieldNamed_46
def fn_X6_fieldNamed_2  : Nat → List Nat → Int32 → uS → Option Int32
  | 0 => fun _ _ _ => none
  | n + 1 => fb_X6_fieldNamed_2 (fn_X6_fieldNamed_2  n)
set_option maxRecDepth 100000 in
set_option maxHeartbeats 4000000 in
theorem xn_X6_fieldNamed_2 {l : Launch} {D : va_G} {A : Nat → ClassId} {B : Nat} {Z : State → Heap → Prop} {vF : Value} (uk : uK B Z vF)   : ∀ (n : Nat) (w1 : List Nat) (x2 : Int32) {qw1 pw1 : Nat} (hw1 : uStr B Z qw1 pw1 w1) (s : uS) (r : Int32), fn_X6_fieldNamed_2  n w1 x2 s = some r → GU l D A B Z mX6_fieldNamed 5 (s, some (.int r)) s 2 [(0, .ref (B + 1053)), (1, .ref qw1), (2, .int x2)] [] := by
  intro n
  induction n with
  | zero => intro w1 x2 qw1 pw1 hw1 s r h
            cases h
  | succ n ih => intro w1 x2 qw1 pw1 hw1 s r h
                 exact xb_X6_fieldNamed_2 uk ih hw1 h
def fn_X6_fieldNamed (w1 : List Nat) (s : uS) : Option Int32 := fn_X6_fieldNamed_2 uFu w1 0 s
set_option maxRecDepth 100000 in
set_option maxHeartbeats 4000000 in
theorem xc_X6_fieldNamed {l : Launch} {D : va_G} {A : Nat → ClassId} {B : Nat} {Z : State → Heap → Prop} {vF : Value} (uk : uK B Z vF) {w1 : List Nat} {s : uS} {r : Int32} {qw1 pw1 : Nat} (hw1 : uStr B Z qw1 pw1 w1) (h : fn_X6_fieldNamed w1 s = some r) : CU l D A B Z 5 mX6_fieldNamed s [.ref (B + 1053), .ref qw1] (s, some (.int r)) := by
  unfold fn_X6_fieldNamed at h
  refine cu_of rfl uk.1.1 (Nat.le_of_ble_eq_true rfl) ?_
  show GU _ _ _ _ _ _ _ _ _ 0 [(0, .ref (B + 1053)), (1, .ref qw1)] []
  refine uu_iconst (v := 0) dX6_fieldNamed_0 (by decide) ?_
  refine uu_istore_n dX6_fieldNamed_1 rfl (by decide) rfl ?_
  refine uu_lv [1, 2, 0] (lv' := [(0, .ref (B + 1053)), (1, .ref qw1), (2, .int 0)]) rfl ?_
  exact xn_X6_fieldNamed_2 uk  _ _ _ hw1 _ _ h
abbrev mX6_isFromPerson : hM := (yX6_isFromPerson, cX6_isFromPerson, 3, (some (.boolean)))
theorem dX6_isFromPerson_132 : decode cX6_isFromPerson 132 = .ok (.iload_n 2, 1) := by decide +kernel
theorem dX6_isFromPerson_133 : decode cX6_isFromPerson 133 = .ok (.bipush 8, 2) := by decide +kernel
theorem dX6_isFromPerson_135 : decode cX6_isFromPerson 135 = .ok (.if_icmp .lt 17, 3) := by decide +kernel
theorem dX6_isFromPerson_152 : decode cX6_isFromPerson 152 = .ok (.iconst 1, 1) := by decide +kernel
theorem dX6_isFromPerson_153 : decode cX6_isFromPerson 153 = .ok (.goto 4, 3) := by decide +kernel
theorem dX6_isFromPerson_157 : decode cX6_isFromPerson 157 = .ok (.ireturn, 1) := by decide +kernel
theorem dX6_isFromPerson_138 : decode cX6_isFromPerson 138 = .ok (.ldc 228, 2) := by decide +kernel
theorem dX6_isFromPerson_140 : decode cX6_isFromPerson 140 = .ok (.aload_n 1, 1) := by decide +kernel
theorem dX6_isFromPerson_141 : decode cX6_isFromPerson 141 = .ok (.iload_n 2, 1) := by decide +kernel
theorem dX6_isFromPerson_142 : decode cX6_isFromPerson 142 = .ok (.bipush 8, 2) := by decide +kernel
theorem dX6_isFromPerson_144 : decode cX6_isFromPerson 144 = .ok (.isub, 1) := by decide +kernel
theorem dX6_isFromPerson_145 : decode cX6_isFromPerson 145 = .ok (.iload_n 2, 1) := by decide +kernel
theorem dX6_isFromPerson_146 : decode cX6_isFromPerson 146 = .ok (.invokestatic 149, 3) := by decide +kernel
theorem dX6_isFromPerson_149 : decode cX6_isFromPerson 149 = .ok (.ifCond .eq 7, 3) := by decide +kernel
theorem dX6_isFromPerson_156 : decode cX6_isFromPerson 156 = .ok (.iconst 0, 1) := by decide +kernel
theorem dX6_isFromPerson_27 : decode cX6_isFromPerson 27 = .ok (.iload_n 1, 1) := by decide +kernel
theorem dX6_isFromPerson_28 : decode cX6_isFromPerson 28 = .ok (.aload_n 0, 1) := by decide +kernel
theorem dX6_isFromPerson_29 : decode cX6_isFromPerson 29 = .ok (.getfield 14, 3) := by decide +kernel
theorem dX6_isFromPerson_32 : decode cX6_isFromPerson 32 = .ok (.getfield 62, 3) := by decide +kernel
theorem dX6_isFromPerson_35 : decode cX6_isFromPerson 35 = .ok (.if_icmp .ge 37, 3) := by decide +kernel
theorem dX6_isFromPerson_72 : decode cX6_isFromPerson 72 = .ok (.aload_n 0, 1) := by decide +kernel
theorem dX6_isFromPerson_73 : decode cX6_isFromPerson 73 = .ok (.getfield 27, 3) := by decide +kernel
theorem fX6_153 : h_fl RX6 153 0 0 RX0 TX0 12 := ⟨rfl, by decide, inX0, h_t2 165 rfl rfl⟩
theorem dX6_isFromPerson_76 : decode cX6_isFromPerson 76 = .ok (.getfield 153, 3) := by decide +kernel
theorem dX6_isFromPerson_79 : decode cX6_isFromPerson 79 = .ok (.getfield 82, 3) := by decide +kernel
theorem dX6_isFromPerson_82 : decode cX6_isFromPerson 82 = .ok (.astore_n 1, 1) := by decide +kernel
theorem dX6_isFromPerson_83 : decode cX6_isFromPerson 83 = .ok (.aload_n 1, 1) := by decide +kernel
theorem dX6_isFromPerson_84 : decode cX6_isFromPerson 84 = .ok (.iconst 0, 1) := by decide +kernel
theorem dX6_isFromPerson_85 : decode cX6_isFromPerson 85 = .ok (.aload_n 0, 1) := by decide +kernel
theorem dX6_isFromPerson_86 : decode cX6_isFromPerson 86 = .ok (.getfield 27, 3) := by decide +kernel
theorem dX6_isFromPerson_89 : decode cX6_isFromPerson 89 = .ok (.getfield 153, 3) := by decide +kernel
theorem dX6_isFromPerson_92 : decode cX6_isFromPerson 92 = .ok (.getfield 75, 3) := by decide +kernel
theorem dX6_isFromPerson_95 : decode cX6_isFromPerson 95 = .ok (.iconst 0, 1) := by decide +kernel
theorem dX6_isFromPerson_96 : decode cX6_isFromPerson 96 = .ok (.iaload, 1) := by decide +kernel
theorem dX6_isFromPerson_97 : decode cX6_isFromPerson 97 = .ok (.bipush 64, 2) := by decide +kernel
theorem dX6_isFromPerson_99 : decode cX6_isFromPerson 99 = .ok (.invokestatic 171, 3) := by decide +kernel
theorem dX6_isFromPerson_102 : decode cX6_isFromPerson 102 = .ok (.istore_n 2, 1) := by decide +kernel
theorem dX6_isFromPerson_103 : decode cX6_isFromPerson 103 = .ok (.ldc 224, 2) := by decide +kernel
theorem dX6_isFromPerson_105 : decode cX6_isFromPerson 105 = .ok (.aload_n 1, 1) := by decide +kernel
theorem dX6_isFromPerson_106 : decode cX6_isFromPerson 106 = .ok (.iconst 0, 1) := by decide +kernel
theorem dX6_isFromPerson_107 : decode cX6_isFromPerson 107 = .ok (.iload_n 2, 1) := by decide +kernel
theorem dX6_isFromPerson_108 : decode cX6_isFromPerson 108 = .ok (.invokestatic 149, 3) := by decide +kernel
theorem dX6_isFromPerson_111 : decode cX6_isFromPerson 111 = .ok (.ifCond .ge 45, 3) := by decide +kernel
theorem dX6_isFromPerson_114 : decode cX6_isFromPerson 114 = .ok (.iload_n 2, 1) := by decide +kernel
theorem dX6_isFromPerson_115 : decode cX6_isFromPerson 115 = .ok (.bipush 6, 2) := by decide +kernel
theorem dX6_isFromPerson_117 : decode cX6_isFromPerson 117 = .ok (.if_icmp .lt 15, 3) := by decide +kernel
theorem dX6_isFromPerson_120 : decode cX6_isFromPerson 120 = .ok (.ldc 226, 2) := by decide +kernel
theorem dX6_isFromPerson_122 : decode cX6_isFromPerson 122 = .ok (.aload_n 1, 1) := by decide +kernel
theorem dX6_isFromPerson_123 : decode cX6_isFromPerson 123 = .ok (.iconst 0, 1) := by decide +kernel
theorem dX6_isFromPerson_124 : decode cX6_isFromPerson 124 = .ok (.bipush 6, 2) := by decide +kernel
theorem dX6_isFromPerson_126 : decode cX6_isFromPerson 126 = .ok (.invokestatic 149, 3) := by decide +kernel
theorem dX6_isFromPerson_129 : decode cX6_isFromPerson 129 = .ok (.ifCond .eq 27, 3) := by decide +kernel
theorem dX6_isFromPerson_38 : decode cX6_isFromPerson 38 = .ok (.aload_n 0, 1) := by decide +kernel
theorem dX6_isFromPerson_39 : decode cX6_isFromPerson 39 = .ok (.getfield 14, 3) := by decide +kernel
theorem dX6_isFromPerson_42 : decode cX6_isFromPerson 42 = .ok (.ldc 216, 2) := by decide +kernel
theorem dX6_isFromPerson_44 : decode cX6_isFromPerson 44 = .ok (.iload_n 1, 1) := by decide +kernel
theorem lX6_218 : Cond.methodLink RX6 218 mX9_placeIn.1 ∈ lw_g := h_t6 82 rfl rfl
theorem dX6_isFromPerson_45 : decode cX6_isFromPerson 45 = .ok (.invokevirtual 218, 3) := by decide +kernel
theorem dX6_isFromPerson_48 : decode cX6_isFromPerson 48 = .ok (.ifCond .ne 18, 3) := by decide +kernel
theorem dX6_isFromPerson_66 : decode cX6_isFromPerson 66 = .ok (.iinc 1 1, 3) := by decide +kernel
theorem dX6_isFromPerson_69 : decode cX6_isFromPerson 69 = .ok (.goto (-42), 3) := by decide +kernel
theorem dX6_isFromPerson_51 : decode cX6_isFromPerson 51 = .ok (.aload_n 0, 1) := by decide +kernel
theorem dX6_isFromPerson_52 : decode cX6_isFromPerson 52 = .ok (.getfield 18, 3) := by decide +kernel
theorem dX6_isFromPerson_55 : decode cX6_isFromPerson 55 = .ok (.ldc 222, 2) := by decide +kernel
theorem dX6_isFromPerson_57 : decode cX6_isFromPerson 57 = .ok (.iload_n 1, 1) := by decide +kernel
theorem dX6_isFromPerson_58 : decode cX6_isFromPerson 58 = .ok (.invokevirtual 218, 3) := by decide +kernel
theorem dX6_isFromPerson_61 : decode cX6_isFromPerson 61 = .ok (.ifCond .eq 5, 3) := by decide +kernel
theorem dX6_isFromPerson_64 : decode cX6_isFromPerson 64 = .ok (.iconst 0, 1) := by decide +kernel
theorem dX6_isFromPerson_65 : decode cX6_isFromPerson 65 = .ok (.ireturn, 1) := by decide +kernel
theorem dX6_isFromPerson_0 : decode cX6_isFromPerson 0 = .ok (.aload_n 0, 1) := by decide +kernel
theorem dX6_isFromPerson_1 : decode cX6_isFromPerson 1 = .ok (.getfield 27, 3) := by decide +kernel
theorem dX6_isFromPerson_4 : decode cX6_isFromPerson 4 = .ok (.getfield 153, 3) := by decide +kernel
theorem dX6_isFromPerson_7 : decode cX6_isFromPerson 7 = .ok (.iconst 0, 1) := by decide +kernel
theorem lX6_206 : Cond.methodLink RX6 206 mX9_lengthOf.1 ∈ lw_g := h_t6 78 rfl rfl
theorem dX6_isFromPerson_8 : decode cX6_isFromPerson 8 = .ok (.invokevirtual 206, 3) := by decide +kernel
theorem dX6_isFromPerson_11 : decode cX6_isFromPerson 11 = .ok (.ifCond .eq 12, 3) := by decide +kernel
theorem dX6_isFromPerson_23 : decode cX6_isFromPerson 23 = .ok (.iconst 0, 1) := by decide +kernel
theorem dX6_isFromPerson_24 : decode cX6_isFromPerson 24 = .ok (.ireturn, 1) := by decide +kernel
theorem dX6_isFromPerson_14 : decode cX6_isFromPerson 14 = .ok (.aload_n 0, 1) := by decide +kernel
theorem dX6_isFromPerson_15 : decode cX6_isFromPerson 15 = .ok (.ldc 210, 2) := by decide +kernel
theorem kX6_fieldNamed : h_ml mX6_fieldNamed 1 := ⟨h_t6 71 rfl rfl, h_t1 14 rfl rfl, ⟨by decide, by decide, by decide +kernel⟩, by decide⟩
theorem lX6_212 : Cond.methodLink RX6 212 mX6_fieldNamed.1 ∈ lw_g := h_t6 80 rfl rfl
theorem sX6_fieldNamed : Cond.instanceMethod mX6_fieldNamed.1 ∈ lw_g ∧ Cond.selects mX6_fieldNamed.1.cls mX6_fieldNamed.1 mX6_fieldNamed.1 ∈ lw_g := ⟨h_t6 69 rfl rfl, h_t6 70 rfl rfl⟩
theorem dX6_isFromPerson_17 : decode cX6_isFromPerson 17 = .ok (.invokevirtual 212, 3) := by decide +kernel
theorem dX6_isFromPerson_20 : decode cX6_isFromPerson 20 = .ok (.ifCond .lt 5, 3) := by decide +kernel
theorem dX6_isFromPerson_25 : decode cX6_isFromPerson 25 = .ok (.iconst 0, 1) := by decide +kernel
theorem dX6_isFromPerson_26 : decode cX6_isFromPerson 26 = .ok (.istore_n 1, 1) := by decide +kernel
def fb_X6_isFromPerson_132  (x2 : Int32) (s : uS) : Option Bool := if x2 < 8 then (some true) else ((fn_X9_place kW_57 1044 (x2 - 8) x2 s).bind fun v3 => if v3 = 0 then (some false) else (some true))
set_option maxRecDepth 100000 in
set_option maxHeartbeats 4000000 in
theorem xb_X6_isFromPerson_132 {l : Launch} {D : va_G} {A : Nat → ClassId} {B : Nat} {Z : State → Heap → Prop} {vF : Value} (uk : uK B Z vF)   {x2 : Int32} {s : uS} {r : Bool}  (h : fb_X6_isFromPerson_132  x2 s = some r) : GU l D A B Z mX6_isFromPerson 6 (s, some (.int (bI r))) s 132 [(1, .ref (B + 1044)), (2, .int x2)] [] := by
  unfold fb_X6_isFromPerson_132 at h
  refine uu_iload_n dX6_isFromPerson_132 rfl (List.mem_of_getElem? (i := 1) rfl) ?_
  refine uu_bipush (v := 8) dX6_isFromPerson_133 (by decide) ?_
  refine uu_icmp_lt (tgt := 152) dX6_isFromPerson_135 (by decide) (fun c1 => ?_) (fun c1 => ?_)
  · replace h := uu_pos c1 h
    refine uu_iconst (v := 1) dX6_isFromPerson_152 (by decide) ?_
    refine uu_goto (tgt := 157) dX6_isFromPerson_153 (by decide) ?_
    have hr := Option.some.inj h
    subst hr
    exact uu_zret (x := bI true) rfl (bI_z _) dX6_isFromPerson_157
  · replace h := uu_neg c1 h
    obtain ⟨cq2, cp2, cv2, cw2⟩ := uk.2.1 57 _ rfl
    refine uu_ldcS cv2 dX6_isFromPerson_138 ?_
    refine uu_aload_n dX6_isFromPerson_140 rfl (List.mem_of_getElem? (i := 0) rfl) ?_
    refine uu_iload_n dX6_isFromPerson_141 rfl (List.mem_of_getElem? (i := 1) rfl) ?_
    refine uu_bipush (v := 8) dX6_isFromPerson_142 (by decide) ?_
    refine uu_isub dX6_isFromPerson_144 ?_
    refine uu_iload_n dX6_isFromPerson_145 rfl (List.mem_of_getElem? (i := 1) rfl) ?_
    obtain ⟨v3, e4, h⟩ := uu_ob h
    refine uu_cs (d1 := 4) (As := [.ref cq2, .ref (B + 1044), .int (x2 - 8), .int x2]) (st := []) (st' := [.int v3]) (xc_X9_place uk cw2 e4) kX9_place lX6_149 sX9_place (by decide) (Nat.le_of_ble_eq_true rfl) dX6_isFromPerson_146 rfl ?_
    refine uu_if_eq (tgt := 156) dX6_isFromPerson_149 (by decide) (fun c5 => ?_) (fun c5 => ?_)
    · replace h := uu_pos c5 h
      refine uu_iconst (v := 0) dX6_isFromPerson_156 (by decide) ?_
      have hr := Option.some.inj h
      subst hr
      exact uu_zret (x := bI false) rfl (bI_z _) dX6_isFromPerson_157
    · replace h := uu_neg c5 h
      refine uu_iconst (v := 1) dX6_isFromPerson_152 (by decide) ?_
      refine uu_goto (tgt := 157) dX6_isFromPerson_153 (by decide) ?_
      have hr := Option.some.inj h
      subst hr
      exact uu_zret (x := bI true) rfl (bI_z _) dX6_isFromPerson_157
def fb_X6_isFromPerson_27 (K27 : Int32 → uS → Option Bool) (x1 : Int32) (s : uS) : Option Bool := if (s.I 1054 3) ≤ x1 then ((iget 20 s 1046 0).bind fun v2 => (fn_X9_find 1044 0 v2 64 s).bind fun v4 => (fn_X9_place kW_55 1044 0 v4 s).bind fun v7 => if 0 ≤ v7 then (some false) else (if v4 < 6 then (fb_X6_isFromPerson_132 v4 s) else ((fn_X9_place kW_56 1044 0 6 s).bind fun v12 => if v12 = 0 then (some false) else (fb_X6_isFromPerson_132 v4 s)))) else ((fn_X9_placeIn 1054 kW_53 x1 s).bind fun v16 => if v16 = 0 then ((fn_X9_placeIn 1058 kW_54 x1 s).bind fun v20 => if v20 = 0 then (K27 (x1 + 1) s) else (some false)) else (K27 (x1 + 1) s))
set_option maxRecDepth 100000 in
set_option maxHeartbeats 4000000 in
theorem xb_X6_isFromPerson_27 {l : Launch} {D : va_G} {A : Nat → ClassId} {B : Nat} {Z : State → Heap → Prop} {vF : Value} (uk : uK B Z vF) {K27 : Int32 → uS → Option Bool} (hK27 : ∀ (x1 : Int32)  (s : uS) (r : Bool), K27 x1 s = some r → GU l D A B Z mX6_isFromPerson 6 (s, some (.int (bI r))) s 27 [(0, .ref (B + 1053)), (1, .int x1)] []) {x1 : Int32} {s : uS} {r : Bool}  (h : fb_X6_isFromPerson_27 K27 x1 s = some r) : GU l D A B Z mX6_isFromPerson 6 (s, some (.int (bI r))) s 27 [(0, .ref (B + 1053)), (1, .int x1)] [] := by
  unfold fb_X6_isFromPerson_27 at h
  refine uu_iload_n dX6_isFromPerson_27 rfl (List.mem_of_getElem? (i := 1) rfl) ?_
  refine uu_aload_n dX6_isFromPerson_28 rfl (List.mem_of_getElem? (i := 0) rfl) ?_
  refine uu_geta (ci := 6) (N := 6) fX6_14 (by decide) so_1053.is (by decide) (c := 1054) (by decide) dX6_isFromPerson_29 ?_
  refine uu_geti (ci := 9) (N := 6) fX6_62 (by decide) so_1054.is (by decide) (by decide) dX6_isFromPerson_32 ?_
  refine uu_icmp_ge (tgt := 72) dX6_isFromPerson_35 (by decide) (fun c1 => ?_) (fun c1 => ?_)
  · replace h := uu_pos c1 h
    refine uu_aload_n dX6_isFromPerson_72 rfl (List.mem_of_getElem? (i := 0) rfl) ?_
    refine uu_geta (ci := 6) (N := 6) fX6_27 (by decide) so_1053.is (by decide) (c := 1042) (by decide) dX6_isFromPerson_73 ?_
    refine uu_geta (ci := 0) (N := 12) fX6_153 (by decide) so_1042.is (by decide) (c := 1043) (by decide) dX6_isFromPerson_76 ?_
    refine uu_getc (ci := 9) (N := 6) fX6_82 (by decide) so_1043.is (by decide) (c := 1) (by decide) (k2 := 1044) rfl dX6_isFromPerson_79 ?_
    refine uu_astore_n dX6_isFromPerson_82 rfl (by decide) rfl ?_
    refine uu_aload_n dX6_isFromPerson_83 rfl (List.mem_of_getElem? (i := 0) rfl) ?_
    refine uu_iconst (v := 0) dX6_isFromPerson_84 (by decide) ?_
    refine uu_aload_n dX6_isFromPerson_85 rfl (List.mem_of_getElem? (i := 1) rfl) ?_
    refine uu_geta (ci := 6) (N := 6) fX6_27 (by decide) so_1053.is (by decide) (c := 1042) (by decide) dX6_isFromPerson_86 ?_
    refine uu_geta (ci := 0) (N := 12) fX6_153 (by decide) so_1042.is (by decide) (c := 1043) (by decide) dX6_isFromPerson_89 ?_
    refine uu_getc (ci := 9) (N := 6) fX6_75 (by decide) so_1043.is (by decide) (c := 3) (by decide) (k2 := 1046) rfl dX6_isFromPerson_92 ?_
    refine uu_iconst (v := 0) dX6_isFromPerson_95 (by decide) ?_
    obtain ⟨v2, e3, h⟩ := uu_ob h
    refine uu_iald e3 dX6_isFromPerson_96 ?_
    refine uu_bipush (v := 64) dX6_isFromPerson_97 (by decide) ?_
    obtain ⟨v4, e5, h⟩ := uu_ob h
    refine uu_cs (d1 := 0) (As := [.ref (B + 1044), .int 0, .int v2, .int 64]) (st := []) (st' := [.int v4]) (xc_X9_find uk  e5) kX9_find lX6_171 sX9_find (by decide) (Nat.le_of_ble_eq_true rfl) dX6_isFromPerson_99 rfl ?_
    refine uu_istore_n dX6_isFromPerson_102 rfl (by decide) rfl ?_
    obtain ⟨cq6, cp6, cv6, cw6⟩ := uk.2.1 55 _ rfl
    refine uu_ldcS cv6 dX6_isFromPerson_103 ?_
    refine uu_aload_n dX6_isFromPerson_105 rfl (List.mem_of_getElem? (i := 1) rfl) ?_
    refine uu_iconst (v := 0) dX6_isFromPerson_106 (by decide) ?_
    refine uu_iload_n dX6_isFromPerson_107 rfl (List.mem_of_getElem? (i := 0) rfl) ?_
    obtain ⟨v7, e8, h⟩ := uu_ob h
    refine uu_cs (d1 := 4) (As := [.ref cq6, .ref (B + 1044), .int 0, .int v4]) (st := []) (st' := [.int v7]) (xc_X9_place uk cw6 e8) kX9_place lX6_149 sX9_place (by decide) (Nat.le_of_ble_eq_true rfl) dX6_isFromPerson_108 rfl ?_
    refine uu_if_ge (tgt := 156) dX6_isFromPerson_111 (by decide) (fun c9 => ?_) (fun c9 => ?_)
    · replace h := uu_pos c9 h
      refine uu_iconst (v := 0) dX6_isFromPerson_156 (by decide) ?_
      have hr := Option.some.inj h
      subst hr
      exact uu_zret (x := bI false) rfl (bI_z _) dX6_isFromPerson_157
    · replace h := uu_neg c9 h
      refine uu_iload_n dX6_isFromPerson_114 rfl (List.mem_of_getElem? (i := 0) rfl) ?_
      refine uu_bipush (v := 6) dX6_isFromPerson_115 (by decide) ?_
      refine uu_icmp_lt (tgt := 132) dX6_isFromPerson_117 (by decide) (fun c10 => ?_) (fun c10 => ?_)
      · replace h := uu_pos c10 h
        refine uu_lv [1, 0] (lv' := [(1, .ref (B + 1044)), (2, .int v4)]) rfl ?_
        exact xb_X6_isFromPerson_132 uk  h
      · replace h := uu_neg c10 h
        obtain ⟨cq11, cp11, cv11, cw11⟩ := uk.2.1 56 _ rfl
        refine uu_ldcS cv11 dX6_isFromPerson_120 ?_
        refine uu_aload_n dX6_isFromPerson_122 rfl (List.mem_of_getElem? (i := 1) rfl) ?_
        refine uu_iconst (v := 0) dX6_isFromPerson_123 (by decide) ?_
        refine uu_bipush (v := 6) dX6_isFromPerson_124 (by decide) ?_
        obtain ⟨v12, e13, h⟩ := uu_ob h
        refine uu_cs (d1 := 4) (As := [.ref cq11, .ref (B + 1044), .int 0, .int 6]) (st := []) (st' := [.int v12]) (xc_X9_place uk cw11 e13) kX9_place lX6_149 sX9_place (by decide) (Nat.le_of_ble_eq_true rfl) dX6_isFromPerson_126 rfl ?_
        refine uu_if_eq (tgt := 156) dX6_isFromPerson_129 (by decide) (fun c14 => ?_) (fun c14 => ?_)
        · replace h := uu_pos c14 h
          refine uu_iconst (v := 0) dX6_isFromPerson_156 (by decide) ?_
          have hr := Option.some.inj h
          subst hr
          exact uu_zret (x := bI false) rfl (bI_z _) dX6_isFromPerson_157
        · replace h := uu_neg c14 h
          refine uu_lv [1, 0] (lv' := [(1, .ref (B + 1044)), (2, .int v4)]) rfl ?_
          exact xb_X6_isFromPerson_132 uk  h
  · replace h := uu_neg c1 h
    refine uu_aload_n dX6_isFromPerson_38 rfl (List.mem_of_getElem? (i := 0) rfl) ?_
    refine uu_geta (ci := 6) (N := 6) fX6_14 (by decide) so_1053.is (by decide) (c := 1054) (by decide) dX6_isFromPerson_39 ?_
    obtain ⟨cq15, cp15, cv15, cw15⟩ := uk.2.1 53 _ rfl
    refine uu_ldcS cv15 dX6_isFromPerson_42 ?_
    refine uu_iload_n dX6_isFromPerson_44 rfl (List.mem_of_getElem? (i := 1) rfl) ?_
    obtain ⟨v16, e17, h⟩ := uu_ob h
    refine uu_cv (d1 := 5) (k := 1054) (ci := 9) (T := TX9) (N := 6) (As := [.ref cq15, .int x1]) (st := []) (st' := [.int v16]) (xc_X9_placeIn uk so_1054 cw15 e17) so_1054.is (by decide) rfl kX9_placeIn lX6_218 sX9_placeIn (by decide) (Nat.le_of_ble_eq_true rfl) dX6_isFromPerson_45 rfl ?_
    refine uu_if_ne (tgt := 66) dX6_isFromPerson_48 (by decide) (fun c18 => ?_) (fun c18 => ?_)
    · replace h := uu_neg c18 h
      refine uu_iinc (v := x1 + 1) dX6_isFromPerson_66 (k := 1) rfl rfl (by decide) rfl ?_
      refine uu_goto (tgt := 27) dX6_isFromPerson_69 (by decide) ?_
      refine uu_lv [1, 0] (lv' := [(0, .ref (B + 1053)), (1, .int (x1 + 1))]) rfl ?_
      exact hK27 (x1 + 1) _ _ h
    · replace h := uu_pos c18 h
      refine uu_aload_n dX6_isFromPerson_51 rfl (List.mem_of_getElem? (i := 0) rfl) ?_
      refine uu_geta (ci := 6) (N := 6) fX6_18 (by decide) so_1053.is (by decide) (c := 1058) (by decide) dX6_isFromPerson_52 ?_
      obtain ⟨cq19, cp19, cv19, cw19⟩ := uk.2.1 54 _ rfl
      refine uu_ldcS cv19 dX6_isFromPerson_55 ?_
      refine uu_iload_n dX6_isFromPerson_57 rfl (List.mem_of_getElem? (i := 1) rfl) ?_
      obtain ⟨v20, e21, h⟩ := uu_ob h
      refine uu_cv (d1 := 5) (k := 1058) (ci := 9) (T := TX9) (N := 6) (As := [.ref cq19, .int x1]) (st := []) (st' := [.int v20]) (xc_X9_placeIn uk so_1058 cw19 e21) so_1058.is (by decide) rfl kX9_placeIn lX6_218 sX9_placeIn (by decide) (Nat.le_of_ble_eq_true rfl) dX6_isFromPerson_58 rfl ?_
      refine uu_if_eq (tgt := 66) dX6_isFromPerson_61 (by decide) (fun c22 => ?_) (fun c22 => ?_)
      · replace h := uu_pos c22 h
        refine uu_iinc (v := x1 + 1) dX6_isFromPerson_66 (k := 1) rfl rfl (by decide) rfl ?_
        refine uu_goto (tgt := 27) dX6_isFromPerson_69 (by decide) ?_
        refine uu_lv [1, 0] (lv' := [(0, .ref (B + 1053)), (1, .int (x1 + 1))]) rfl ?_
        exact hK27 (x1 + 1) _ _ h
      · replace h := uu_neg c22 h
        refine uu_iconst (v := 0) dX6_isFromPerson_64 (by decide) ?_
        have hr := Option.some.inj h
        subst hr
        exact uu_zret (x := bI false) rfl (bI_z _) dX6_isFromPerson_65
def fn_X6_isFromPerson_27  : Nat → Int32 → uS → Option Bool
  | 0 => fun _ _ => none
  | n + 1 => fb_X6_isFromPerson_27 (fn_X6_isFromPerson_27  n)
set_option maxRecDepth 100000 in
set_option maxHeartbeats 4000000 in
theorem xn_X6_isFromPerson_27 {l : Launch} {D : va_G} {A : Nat → ClassId} {B : Nat} {Z : State → Heap → Prop} {vF : Value} (uk : uK B Z vF)   : ∀ (n : Nat) (x1 : Int32)  (s : uS) (r : Bool), fn_X6_isFromPerson_27  n x1 s = some r → GU l D A B Z mX6_isFromPerson 6 (s, some (.int (bI r))) s 27 [(0, .ref (B + 1053)), (1, .int x1)] [] := by
  intro n
  induction n with
  | zero => intro x1 s r h
            cases h
  | succ n ih => intro x1 s r h
                 exact xb_X6_isFromPerson_27 uk ih  h
def fn_X6_isFromPerson  (s : uS) : Option Bool := (fn_X9_lengthOf 1043 0 s).bind fun v1 => if v1 = 0 then (some false) else ((fn_X6_fieldNamed kW_52 s).bind fun v5 => if v5 < 0 then (fn_X6_isFromPerson_27 uFu 0 s) else (some false))
set_option maxRecDepth 100000 in
set_option maxHeartbeats 4000000 in
theorem xc_X6_isFromPerson {l : Launch} {D : va_G} {A : Nat → ClassId} {B : Nat} {Z : State → Heap → Prop} {vF : Value} (uk : uK B Z vF)  {s : uS} {r : Bool}  (h : fn_X6_isFromPerson  s = some r) : CU l D A B Z 6 mX6_isFromPerson s [.ref (B + 1053)] (s, some (.int (bI r))) := by
  unfold fn_X6_isFromPerson at h
  refine cu_of rfl uk.1.1 (Nat.le_of_ble_eq_true rfl) ?_
  show GU _ _ _ _ _ _ _ _ _ 0 [(0, .ref (B + 1053))] []
  refine uu_aload_n dX6_isFromPerson_0 rfl (List.mem_of_getElem? (i := 0) rfl) ?_
  refine uu_geta (ci := 6) (N := 6) fX6_27 (by decide) so_1053.is (by decide) (c := 1042) (by decide) dX6_isFromPerson_1 ?_
  refine uu_geta (ci := 0) (N := 12) fX6_153 (by decide) so_1042.is (by decide) (c := 1043) (by decide) dX6_isFromPerson_4 ?_
  refine uu_iconst (v := 0) dX6_isFromPerson_7 (by decide) ?_
  obtain ⟨v1, e2, h⟩ := uu_ob h
  refine uu_cv (d1 := 0) (k := 1043) (ci := 9) (T := TX9) (N := 6) (As := [.int 0]) (st := []) (st' := [.int v1]) (xc_X9_lengthOf uk so_1043 e2) so_1043.is (by decide) rfl kX9_lengthOf lX6_206 sX9_lengthOf (by decide) (Nat.le_of_ble_eq_true rfl) dX6_isFromPerson_8 rfl ?_
  refine uu_if_eq (tgt := 23) dX6_isFromPerson_11 (by decide) (fun c3 => ?_) (fun c3 => ?_)
  · replace h := uu_pos c3 h
    refine uu_iconst (v := 0) dX6_isFromPerson_23 (by decide) ?_
    have hr := Option.some.inj h
    subst hr
    exact uu_zret (x := bI false) rfl (bI_z _) dX6_isFromPerson_24
  · replace h := uu_neg c3 h
    refine uu_aload_n dX6_isFromPerson_14 rfl (List.mem_of_getElem? (i := 0) rfl) ?_
    obtain ⟨cq4, cp4, cv4, cw4⟩ := uk.2.1 52 _ rfl
    refine uu_ldcS cv4 dX6_isFromPerson_15 ?_
    obtain ⟨v5, e6, h⟩ := uu_ob h
    refine uu_cv (d1 := 5) (k := 1053) (ci := 6) (T := TX6) (N := 6) (As := [.ref cq4]) (st := []) (st' := [.int v5]) (xc_X6_fieldNamed uk cw4 e6) so_1053.is (by decide) rfl kX6_fieldNamed lX6_212 sX6_fieldNamed (by decide) (Nat.le_of_ble_eq_true rfl) dX6_isFromPerson_17 rfl ?_
    refine uu_if_lt (tgt := 25) dX6_isFromPerson_20 (by decide) (fun c7 => ?_) (fun c7 => ?_)
    · replace h := uu_pos c7 h
      refine uu_iconst (v := 0) dX6_isFromPerson_25 (by decide) ?_
      refine uu_istore_n dX6_isFromPerson_26 rfl (by decide) rfl ?_
      refine uu_lv [1, 0] (lv' := [(0, .ref (B + 1053)), (1, .int 0)]) rfl ?_
      exact xn_X6_isFromPerson_27 uk  _ _ _ _ h
    · replace h := uu_neg c7 h
      refine uu_iconst (v := 0) dX6_isFromPerson_23 (by decide) ?_
      have hr := Option.some.inj h
      subst hr
      exact uu_zret (x := bI false) rfl (bI_z _) dX6_isFromPerson_24
abbrev mX7_clearPlan : hM := (yX7_clearPlan, cX7_clearPlan, 1, none)
theorem dX7_clearPlan_0 : decode cX7_clearPlan 0 = .ok (.aload_n 0, 1) := by decide +kernel
theorem dX7_clearPlan_1 : decode cX7_clearPlan 1 = .ok (.iconst 0, 1) := by decide +kernel
theorem fX7_59 : h_fl RX7 59 7 5 RX7 TX7 20 := ⟨rfl, by decide, inX7, h_t3 18 rfl rfl⟩
theorem dX7_clearPlan_2 : decode cX7_clearPlan 2 = .ok (.putfield 59, 3) := by decide +kernel
theorem dX7_clearPlan_5 : decode cX7_clearPlan 5 = .ok (.aload_n 0, 1) := by decide +kernel
theorem dX7_clearPlan_6 : decode cX7_clearPlan 6 = .ok (.iconst 0, 1) := by decide +kernel
theorem fX7_62 : h_fl RX7 62 7 6 RX7 TX7 20 := ⟨rfl, by decide, inX7, h_t3 20 rfl rfl⟩
theorem dX7_clearPlan_7 : decode cX7_clearPlan 7 = .ok (.putfield 62, 3) := by decide +kernel
theorem dX7_clearPlan_10 : decode cX7_clearPlan 10 = .ok (.aload_n 0, 1) := by decide +kernel
theorem dX7_clearPlan_11 : decode cX7_clearPlan 11 = .ok (.iconst 0, 1) := by decide +kernel
theorem fX7_65 : h_fl RX7 65 7 7 RX7 TX7 20 := ⟨rfl, by decide, inX7, h_t3 22 rfl rfl⟩
theorem dX7_clearPlan_12 : decode cX7_clearPlan 12 = .ok (.putfield 65, 3) := by decide +kernel
theorem dX7_clearPlan_15 : decode cX7_clearPlan 15 = .ok (.aload_n 0, 1) := by decide +kernel
theorem dX7_clearPlan_16 : decode cX7_clearPlan 16 = .ok (.aconst_null, 1) := by decide +kernel
theorem fX7_68 : h_fl RX7 68 7 9 RX7 TX7 20 := ⟨rfl, by decide, inX7, h_t3 26 rfl rfl⟩
theorem dX7_clearPlan_17 : decode cX7_clearPlan 17 = .ok (.putfield 68, 3) := by decide +kernel
theorem dX7_clearPlan_20 : decode cX7_clearPlan 20 = .ok (.aload_n 0, 1) := by decide +kernel
theorem dX7_clearPlan_21 : decode cX7_clearPlan 21 = .ok (.aconst_null, 1) := by decide +kernel
theorem fX7_72 : h_fl RX7 72 7 10 RX7 TX7 20 := ⟨rfl, by decide, inX7, h_t3 28 rfl rfl⟩
theorem dX7_clearPlan_22 : decode cX7_clearPlan 22 = .ok (.putfield 72, 3) := by decide +kernel
theorem dX7_clearPlan_25 : decode cX7_clearPlan 25 = .ok (.aload_n 0, 1) := by decide +kernel
theorem dX7_clearPlan_26 : decode cX7_clearPlan 26 = .ok (.iconst 0, 1) := by decide +kernel
theorem fX7_75 : h_fl RX7 75 7 8 RX7 TX7 20 := ⟨rfl, by decide, inX7, h_t3 24 rfl rfl⟩
theorem dX7_clearPlan_27 : decode cX7_clearPlan 27 = .ok (.putfield 75, 3) := by decide +kernel
theorem dX7_clearPlan_30 : decode cX7_clearPlan 30 = .ok (.aload_n 0, 1) := by decide +kernel
theorem dX7_clearPlan_31 : decode cX7_clearPlan 31 = .ok (.iconst 0, 1) := by decide +kernel
theorem fX7_78 : h_fl RX7 78 7 15 RX7 TX7 20 := ⟨rfl, by decide, inX7, h_t3 33 rfl rfl⟩
theorem dX7_clearPlan_32 : decode cX7_clearPlan 32 = .ok (.putfield 78, 3) := by decide +kernel
theorem dX7_clearPlan_35 : decode cX7_clearPlan 35 = .ok (.aload_n 0, 1) := by decide +kernel
theorem dX7_clearPlan_36 : decode cX7_clearPlan 36 = .ok (.iconst 1, 1) := by decide +kernel
theorem fX7_81 : h_fl RX7 81 7 14 RX7 TX7 20 := ⟨rfl, by decide, inX7, h_t3 32 rfl rfl⟩
theorem dX7_clearPlan_37 : decode cX7_clearPlan 37 = .ok (.putfield 81, 3) := by decide +kernel
theorem dX7_clearPlan_40 : decode cX7_clearPlan 40 = .ok (.aload_n 0, 1) := by decide +kernel
theorem dX7_clearPlan_41 : decode cX7_clearPlan 41 = .ok (.iconst 0, 1) := by decide +kernel
theorem fX7_84 : h_fl RX7 84 7 13 RX7 TX7 20 := ⟨rfl, by decide, inX7, h_t3 31 rfl rfl⟩
theorem dX7_clearPlan_42 : decode cX7_clearPlan 42 = .ok (.putfield 84, 3) := by decide +kernel
theorem dX7_clearPlan_45 : decode cX7_clearPlan 45 = .ok (.return_, 1) := by decide +kernel
def fn_X7_clearPlan  (s : uS) : Option uS := some (wI (wI (wI (wI (wR (wR (wI (wI (wI s 1070 5 0) 1070 6 0) 1070 7 0) 1070 9 none) 1070 10 none) 1070 8 0) 1070 15 0) 1070 14 1) 1070 13 0)
set_option maxRecDepth 100000 in
set_option maxHeartbeats 4000000 in
theorem xc_X7_clearPlan {l : Launch} {D : va_G} {A : Nat → ClassId} {B : Nat} {Z : State → Heap → Prop} {vF : Value} (uk : uK B Z vF)  {s : uS} {r : uS}  (h : fn_X7_clearPlan  s = some r) : CU l D A B Z 0 mX7_clearPlan s [.ref (B + 1070)] (r, none) := by
  unfold fn_X7_clearPlan at h
  refine cu_of rfl uk.1.1 (Nat.le_of_ble_eq_true rfl) ?_
  show GU _ _ _ _ _ _ _ _ _ 0 [(0, .ref (B + 1070))] []
  refine uu_aload_n dX7_clearPlan_0 rfl (List.mem_of_getElem? (i := 0) rfl) ?_
  refine uu_iconst (v := 0) dX7_clearPlan_1 (by decide) ?_
  refine uu_puti (ft := .int) (ci := 7) (N := 20) fX7_59 ptX7 (Or.inl rfl) (by decide) so_1070.is (by decide) (by decide) (by decide +kernel) rfl rfl dX7_clearPlan_2 ?_
  refine uu_aload_n dX7_clearPlan_5 rfl (List.mem_of_getElem? (i := 0) rfl) ?_
  refine uu_iconst (v := 0) dX7_clearPlan_6 (by decide) ?_
  refine uu_puti (ft := .int) (ci := 7) (N := 20) fX7_62 ptX7 (Or.inl rfl) (by decide) so_1070.is (by decide) (by decide) (by decide +kernel) rfl rfl dX7_clearPlan_7 ?_
  refine uu_aload_n dX7_clearPlan_10 rfl (List.mem_of_getElem? (i := 0) rfl) ?_
  refine uu_iconst (v := 0) dX7_clearPlan_11 (by decide) ?_
  refine uu_puti (ft := .int) (ci := 7) (N := 20) fX7_65 ptX7 (Or.inl rfl) (by decide) so_1070.is (by decide) (by decide) (by decide +kernel) rfl rfl dX7_clearPlan_12 ?_
  refine uu_aload_n dX7_clearPlan_15 rfl (List.mem_of_getElem? (i := 0) rfl) ?_
  refine uu_null dX7_clearPlan_16 ?_
  refine uu_putr (x := none) (ft := (.object "SortedMail$Node")) (ci := 7) (N := 20) fX7_68 ptX7 (Or.inl rfl) (by decide) so_1070.is (by decide) (by decide) (by decide +kernel) rfl rfl dX7_clearPlan_17 ?_
  refine uu_aload_n dX7_clearPlan_20 rfl (List.mem_of_getElem? (i := 0) rfl) ?_
  refine uu_null dX7_clearPlan_21 ?_
  refine uu_putr (x := none) (ft := (.object "SortedMail$Node")) (ci := 7) (N := 20) fX7_72 ptX7 (Or.inl rfl) (by decide) so_1070.is (by decide) (by decide) (by decide +kernel) rfl rfl dX7_clearPlan_22 ?_
  refine uu_aload_n dX7_clearPlan_25 rfl (List.mem_of_getElem? (i := 0) rfl) ?_
  refine uu_iconst (v := 0) dX7_clearPlan_26 (by decide) ?_
  refine uu_puti (ft := .boolean) (ci := 7) (N := 20) fX7_75 ptX7 (Or.inl rfl) (by decide) so_1070.is (by decide) (by decide) (by decide +kernel) rfl rfl dX7_clearPlan_27 ?_
  refine uu_aload_n dX7_clearPlan_30 rfl (List.mem_of_getElem? (i := 0) rfl) ?_
  refine uu_iconst (v := 0) dX7_clearPlan_31 (by decide) ?_
  refine uu_puti (ft := .boolean) (ci := 7) (N := 20) fX7_78 ptX7 (Or.inl rfl) (by decide) so_1070.is (by decide) (by decide) (by decide +kernel) rfl rfl dX7_clearPlan_32 ?_
  refine uu_aload_n dX7_clearPlan_35 rfl (List.mem_of_getElem? (i := 0) rfl) ?_
  refine uu_iconst (v := 1) dX7_clearPlan_36 (by decide) ?_
  refine uu_puti (ft := .boolean) (ci := 7) (N := 20) fX7_81 ptX7 (Or.inl rfl) (by decide) so_1070.is (by decide) (by decide) (by decide +kernel) rfl rfl dX7_clearPlan_37 ?_
  refine uu_aload_n dX7_clearPlan_40 rfl (List.mem_of_getElem? (i := 0) rfl) ?_
  refine uu_iconst (v := 0) dX7_clearPlan_41 (by decide) ?_
  refine uu_puti (ft := .int) (ci := 7) (N := 20) fX7_84 ptX7 (Or.inl rfl) (by decide) so_1070.is (by decide) (by decide) (by decide +kernel) rfl rfl dX7_clearPlan_42 ?_
  have hr := Option.some.inj h
  subst hr
  exact uu_vret rfl dX7_clearPlan_45
abbrev mX7_begin : hM := (yX7_begin, cX7_begin, 3, none)
theorem dX7_begin_0 : decode cX7_begin 0 = .ok (.aload_n 0, 1) := by decide +kernel
theorem dX7_begin_1 : decode cX7_begin 1 = .ok (.aload_n 1, 1) := by decide +kernel
theorem fX7_41 : h_fl RX7 41 7 11 RX7 TX7 20 := ⟨rfl, by decide, inX7, h_t3 29 rfl rfl⟩
theorem dX7_begin_2 : decode cX7_begin 2 = .ok (.putfield 41, 3) := by decide +kernel
theorem dX7_begin_5 : decode cX7_begin 5 = .ok (.aload_n 0, 1) := by decide +kernel
theorem dX7_begin_6 : decode cX7_begin 6 = .ok (.iload_n 2, 1) := by decide +kernel
theorem fX7_45 : h_fl RX7 45 7 12 RX7 TX7 20 := ⟨rfl, by decide, inX7, h_t3 30 rfl rfl⟩
theorem dX7_begin_7 : decode cX7_begin 7 = .ok (.putfield 45, 3) := by decide +kernel
theorem dX7_begin_10 : decode cX7_begin 10 = .ok (.aload_n 0, 1) := by decide +kernel
theorem dX7_begin_11 : decode cX7_begin 11 = .ok (.iconst 0, 1) := by decide +kernel
theorem fX7_49 : h_fl RX7 49 7 16 RX7 TX7 20 := ⟨rfl, by decide, inX7, h_t3 34 rfl rfl⟩
theorem dX7_begin_12 : decode cX7_begin 12 = .ok (.putfield 49, 3) := by decide +kernel
theorem dX7_begin_15 : decode cX7_begin 15 = .ok (.aload_n 0, 1) := by decide +kernel
theorem dX7_begin_16 : decode cX7_begin 16 = .ok (.iconst 0, 1) := by decide +kernel
theorem fX7_53 : h_fl RX7 53 7 17 RX7 TX7 20 := ⟨rfl, by decide, inX7, h_t3 35 rfl rfl⟩
theorem dX7_begin_17 : decode cX7_begin 17 = .ok (.putfield 53, 3) := by decide +kernel
theorem dX7_begin_20 : decode cX7_begin 20 = .ok (.aload_n 0, 1) := by decide +kernel
theorem kX7_clearPlan : h_ml mX7_clearPlan 0 := ⟨h_t4 165 rfl rfl, h_t1 15 rfl rfl, ⟨by decide, by decide, by decide +kernel⟩, by decide⟩
theorem lX7_56 : Cond.methodLink RX7 56 mX7_clearPlan.1 ∈ lw_g := h_t4 162 rfl rfl
theorem sX7_clearPlan : Cond.instanceMethod mX7_clearPlan.1 ∈ lw_g ∧ Cond.selects mX7_clearPlan.1.cls mX7_clearPlan.1 mX7_clearPlan.1 ∈ lw_g := ⟨h_t4 164 rfl rfl, h_ins 16 rfl⟩
theorem dX7_begin_21 : decode cX7_begin 21 = .ok (.invokevirtual 56, 3) := by decide +kernel
theorem dX7_begin_24 : decode cX7_begin 24 = .ok (.return_, 1) := by decide +kernel
def fn_X7_begin (k1 : Nat) (x2 : Int32) (s : uS) : Option uS := (fn_X7_clearPlan (wI (wI (wI (wR s 1070 11 (some k1)) 1070 12 x2) 1070 16 0) 1070 17 0)).bind fun s1 => some s1
set_option maxRecDepth 100000 in
set_option maxHeartbeats 4000000 in
theorem xc_X7_begin {l : Launch} {D : va_G} {A : Nat → ClassId} {B : Nat} {Z : State → Heap → Prop} {vF : Value} (uk : uK B Z vF) {k1 : Nat} {x2 : Int32} {s : uS} {r : uS} (hk1 : uSo k1 10) (h : fn_X7_begin k1 x2 s = some r) : CU l D A B Z 1 mX7_begin s [.ref (B + 1070), .ref (B + k1), .int x2] (r, none) := by
  unfold fn_X7_begin at h
  refine cu_of rfl uk.1.1 (Nat.le_of_ble_eq_true rfl) ?_
  show GU _ _ _ _ _ _ _ _ _ 0 [(0, .ref (B + 1070)), (1, .ref (B + k1)), (2, .int x2)] []
  refine uu_aload_n dX7_begin_0 rfl (List.mem_of_getElem? (i := 0) rfl) ?_
  refine uu_aload_n dX7_begin_1 rfl (List.mem_of_getElem? (i := 1) rfl) ?_
  refine uu_putr (x := (some k1)) (ft := (.object "SortedMail$User")) (ci := 7) (N := 20) fX7_41 ptX7 (Or.inl rfl) (by decide) so_1070.is (by decide) (by decide) (by decide +kernel) rfl rfl dX7_begin_2 ?_
  refine uu_aload_n dX7_begin_5 rfl (List.mem_of_getElem? (i := 0) rfl) ?_
  refine uu_iload_n dX7_begin_6 rfl (List.mem_of_getElem? (i := 2) rfl) ?_
  refine uu_puti (ft := .int) (ci := 7) (N := 20) fX7_45 ptX7 (Or.inl rfl) (by decide) so_1070.is (by decide) (by decide) (by decide +kernel) rfl rfl dX7_begin_7 ?_
  refine uu_aload_n dX7_begin_10 rfl (List.mem_of_getElem? (i := 0) rfl) ?_
  refine uu_iconst (v := 0) dX7_begin_11 (by decide) ?_
  refine uu_puti (ft := .boolean) (ci := 7) (N := 20) fX7_49 ptX7 (Or.inl rfl) (by decide) so_1070.is (by decide) (by decide) (by decide +kernel) rfl rfl dX7_begin_12 ?_
  refine uu_aload_n dX7_begin_15 rfl (List.mem_of_getElem? (i := 0) rfl) ?_
  refine uu_iconst (v := 0) dX7_begin_16 (by decide) ?_
  refine uu_puti (ft := .boolean) (ci := 7) (N := 20) fX7_53 ptX7 (Or.inl rfl) (by decide) so_1070.is (by decide) (by decide) (by decide +kernel) rfl rfl dX7_begin_17 ?_
  refine uu_aload_n dX7_begin_20 rfl (List.mem_of_getElem? (i := 0) rfl) ?_
  obtain ⟨s1, e2, h⟩ := uu_ob h
  refine uu_cv (d1 := 0) (k := 1070) (ci := 7) (T := TX7) (N := 20) (As := []) (st := []) (st' := []) (xc_X7_clearPlan uk  e2) so_1070.is (by decide) rfl kX7_clearPlan lX7_56 sX7_clearPlan (by decide) (Nat.le_of_ble_eq_true rfl) dX7_begin_21 rfl ?_
  have hr := Option.some.inj h
  subst hr
  exact uu_vret rfl dX7_begin_24
abbrev mX7_behindTest : hM := (yX7_behindTest, cX7_behindTest, 8, (some (.int)))
theorem dX7_behindTest_61 : decode cX7_behindTest 61 = .ok (.iload_n 3, 1) := by decide +kernel
theorem dX7_behindTest_62 : decode cX7_behindTest 62 = .ok (.ifCond .eq 11, 3) := by decide +kernel
theorem dX7_behindTest_73 : decode cX7_behindTest 73 = .ok (.aload 7, 2) := by decide +kernel
theorem fX7_133 : h_fl RX7 133 3 4 RX3 TX3 15 := ⟨rfl, by decide, inX3, h_t1 161 rfl rfl⟩
theorem dX7_behindTest_75 : decode cX7_behindTest 75 = .ok (.getfield 133, 3) := by decide +kernel
theorem dX7_behindTest_78 : decode cX7_behindTest 78 = .ok (.ireturn, 1) := by decide +kernel
theorem dX7_behindTest_65 : decode cX7_behindTest 65 = .ok (.aload 6, 2) := by decide +kernel
theorem fX7_130 : h_fl RX7 130 3 3 RX3 TX3 15 := ⟨rfl, by decide, inX3, h_t1 159 rfl rfl⟩
theorem dX7_behindTest_67 : decode cX7_behindTest 67 = .ok (.getfield 130, 3) := by decide +kernel
theorem dX7_behindTest_70 : decode cX7_behindTest 70 = .ok (.goto 8, 3) := by decide +kernel
theorem dX7_behindTest_98 : decode cX7_behindTest 98 = .ok (.istore_n 3, 1) := by decide +kernel
theorem dX7_behindTest_99 : decode cX7_behindTest 99 = .ok (.goto 41, 3) := by decide +kernel
theorem dX7_behindTest_140 : decode cX7_behindTest 140 = .ok (.aload 6, 2) := by decide +kernel
theorem fX7_127 : h_fl RX7 127 3 1 RX3 TX3 15 := ⟨rfl, by decide, inX3, h_t1 156 rfl rfl⟩
theorem dX7_behindTest_142 : decode cX7_behindTest 142 = .ok (.getfield 127, 3) := by decide +kernel
theorem dX7_behindTest_145 : decode cX7_behindTest 145 = .ok (.istore 4, 2) := by decide +kernel
theorem dX7_behindTest_147 : decode cX7_behindTest 147 = .ok (.iinc 5 1, 3) := by decide +kernel
theorem dX7_behindTest_150 : decode cX7_behindTest 150 = .ok (.goto (-142), 3) := by decide +kernel
theorem dX7_behindTest_118 : decode cX7_behindTest 118 = .ok (.if_icmp .ne 22, 3) := by decide +kernel
theorem dX7_behindTest_121 : decode cX7_behindTest 121 = .ok (.aload 6, 2) := by decide +kernel
theorem dX7_behindTest_123 : decode cX7_behindTest 123 = .ok (.getfield 130, 3) := by decide +kernel
theorem dX7_behindTest_126 : decode cX7_behindTest 126 = .ok (.aload 7, 2) := by decide +kernel
theorem dX7_behindTest_128 : decode cX7_behindTest 128 = .ok (.getfield 130, 3) := by decide +kernel
theorem dX7_behindTest_131 : decode cX7_behindTest 131 = .ok (.if_icmp .ge 9, 3) := by decide +kernel
theorem dX7_behindTest_134 : decode cX7_behindTest 134 = .ok (.aload 6, 2) := by decide +kernel
theorem dX7_behindTest_136 : decode cX7_behindTest 136 = .ok (.getfield 130, 3) := by decide +kernel
theorem dX7_behindTest_139 : decode cX7_behindTest 139 = .ok (.ireturn, 1) := by decide +kernel
theorem dX7_behindTest_8 : decode cX7_behindTest 8 = .ok (.iload 5, 2) := by decide +kernel
theorem dX7_behindTest_10 : decode cX7_behindTest 10 = .ok (.sipush 320, 3) := by decide +kernel
theorem dX7_behindTest_13 : decode cX7_behindTest 13 = .ok (.if_icmp .ge 140, 3) := by decide +kernel
theorem dX7_behindTest_153 : decode cX7_behindTest 153 = .ok (.aload_n 0, 1) := by decide +kernel
theorem dX7_behindTest_154 : decode cX7_behindTest 154 = .ok (.getfield 33, 3) := by decide +kernel
theorem fX7_89 : h_fl RX7 89 4 2 RX4 TX4 9 := ⟨rfl, by decide, inX4, h_t1 228 rfl rfl⟩
theorem dX7_behindTest_157 : decode cX7_behindTest 157 = .ok (.getfield 89, 3) := by decide +kernel
theorem dX7_behindTest_160 : decode cX7_behindTest 160 = .ok (.ireturn, 1) := by decide +kernel
theorem dX7_behindTest_16 : decode cX7_behindTest 16 = .ok (.aload_n 0, 1) := by decide +kernel
theorem dX7_behindTest_17 : decode cX7_behindTest 17 = .ok (.getfield 33, 3) := by decide +kernel
theorem fX7_92 : h_fl RX7 92 4 1 RX4 TX4 9 := ⟨rfl, by decide, inX4, h_t1 226 rfl rfl⟩
theorem dX7_behindTest_20 : decode cX7_behindTest 20 = .ok (.getfield 92, 3) := by decide +kernel
theorem dX7_behindTest_23 : decode cX7_behindTest 23 = .ok (.iload 4, 2) := by decide +kernel
theorem dX7_behindTest_25 : decode cX7_behindTest 25 = .ok (.aaload, 1) := by decide +kernel
theorem dX7_behindTest_26 : decode cX7_behindTest 26 = .ok (.astore 6, 2) := by decide +kernel
theorem dX7_behindTest_28 : decode cX7_behindTest 28 = .ok (.aload_n 0, 1) := by decide +kernel
theorem dX7_behindTest_29 : decode cX7_behindTest 29 = .ok (.getfield 33, 3) := by decide +kernel
theorem dX7_behindTest_32 : decode cX7_behindTest 32 = .ok (.getfield 92, 3) := by decide +kernel
theorem dX7_behindTest_35 : decode cX7_behindTest 35 = .ok (.aload 6, 2) := by decide +kernel
theorem dX7_behindTest_37 : decode cX7_behindTest 37 = .ok (.getfield 127, 3) := by decide +kernel
theorem dX7_behindTest_40 : decode cX7_behindTest 40 = .ok (.aaload, 1) := by decide +kernel
theorem dX7_behindTest_41 : decode cX7_behindTest 41 = .ok (.astore 7, 2) := by decide +kernel
theorem dX7_behindTest_43 : decode cX7_behindTest 43 = .ok (.aload 7, 2) := by decide +kernel
theorem fX7_116 : h_fl RX7 116 3 0 RX3 TX3 15 := ⟨rfl, by decide, inX3, h_t1 152 rfl rfl⟩
theorem dX7_behindTest_45 : decode cX7_behindTest 45 = .ok (.getfield 116, 3) := by decide +kernel
theorem dX7_behindTest_48 : decode cX7_behindTest 48 = .ok (.ifCond .eq 13, 3) := by decide +kernel
theorem dX7_behindTest_51 : decode cX7_behindTest 51 = .ok (.aload 7, 2) := by decide +kernel
theorem dX7_behindTest_53 : decode cX7_behindTest 53 = .ok (.getfield 116, 3) := by decide +kernel
theorem dX7_behindTest_56 : decode cX7_behindTest 56 = .ok (.bipush 22, 2) := by decide +kernel
theorem dX7_behindTest_58 : decode cX7_behindTest 58 = .ok (.if_icmp .ne 21, 3) := by decide +kernel
theorem dX7_behindTest_79 : decode cX7_behindTest 79 = .ok (.aload 7, 2) := by decide +kernel
theorem dX7_behindTest_81 : decode cX7_behindTest 81 = .ok (.getfield 116, 3) := by decide +kernel
theorem dX7_behindTest_84 : decode cX7_behindTest 84 = .ok (.bipush 19, 2) := by decide +kernel
theorem dX7_behindTest_86 : decode cX7_behindTest 86 = .ok (.if_icmp .ne 16, 3) := by decide +kernel
theorem dX7_behindTest_102 : decode cX7_behindTest 102 = .ok (.iload_n 3, 1) := by decide +kernel
theorem dX7_behindTest_103 : decode cX7_behindTest 103 = .ok (.aload 7, 2) := by decide +kernel
theorem dX7_behindTest_105 : decode cX7_behindTest 105 = .ok (.getfield 116, 3) := by decide +kernel
theorem dX7_behindTest_108 : decode cX7_behindTest 108 = .ok (.bipush 17, 2) := by decide +kernel
theorem dX7_behindTest_110 : decode cX7_behindTest 110 = .ok (.if_icmp .ne 7, 3) := by decide +kernel
theorem dX7_behindTest_117 : decode cX7_behindTest 117 = .ok (.iconst 0, 1) := by decide +kernel
theorem dX7_behindTest_113 : decode cX7_behindTest 113 = .ok (.iconst 1, 1) := by decide +kernel
theorem dX7_behindTest_114 : decode cX7_behindTest 114 = .ok (.goto 4, 3) := by decide +kernel
theorem dX7_behindTest_89 : decode cX7_behindTest 89 = .ok (.iload_n 3, 1) := by decide +kernel
theorem dX7_behindTest_90 : decode cX7_behindTest 90 = .ok (.ifCond .ne 7, 3) := by decide +kernel
theorem dX7_behindTest_97 : decode cX7_behindTest 97 = .ok (.iconst 0, 1) := by decide +kernel
theorem dX7_behindTest_93 : decode cX7_behindTest 93 = .ok (.iconst 1, 1) := by decide +kernel
theorem dX7_behindTest_94 : decode cX7_behindTest 94 = .ok (.goto 4, 3) := by decide +kernel
theorem dX7_behindTest_0 : decode cX7_behindTest 0 = .ok (.iload_n 2, 1) := by decide +kernel
theorem dX7_behindTest_1 : decode cX7_behindTest 1 = .ok (.istore_n 3, 1) := by decide +kernel
theorem dX7_behindTest_2 : decode cX7_behindTest 2 = .ok (.iload_n 1, 1) := by decide +kernel
theorem dX7_behindTest_3 : decode cX7_behindTest 3 = .ok (.istore 4, 2) := by decide +kernel
theorem dX7_behindTest_5 : decode cX7_behindTest 5 = .ok (.iconst 0, 1) := by decide +kernel
theorem dX7_behindTest_6 : decode cX7_behindTest 6 = .ok (.istore 5, 2) := by decide +kernel
def fb_X7_behindTest_61  (b3 : Bool) (k6 : Nat) (k7 : Nat) (s : uS) : Option Int32 := if b3 = true then (some (s.I k6 3)) else (some (s.I k7 4))
set_option maxRecDepth 100000 in
set_option maxHeartbeats 4000000 in
theorem xb_X7_behindTest_61 {l : Launch} {D : va_G} {A : Nat → ClassId} {B : Nat} {Z : State → Heap → Prop} {vF : Value} (uk : uK B Z vF)   {b3 : Bool} {k6 : Nat} {k7 : Nat} {s : uS} {r : Int32} (hk6 : uSo k6 3) (hk7 : uSo k7 3) (h : fb_X7_behindTest_61  b3 k6 k7 s = some r) : GU l D A B Z mX7_behindTest 0 (s, some (.int r)) s 61 [(3, .int (bI b3)), (6, .ref (B + k6)), (7, .ref (B + k7))] [] := by
  unfold fb_X7_behindTest_61 at h
  refine uu_iload_n dX7_behindTest_61 rfl (List.mem_of_getElem? (i := 0) rfl) ?_
  refine uu_ifb_eq (tgt := 73) dX7_behindTest_62 (by decide) (fun c1 => ?_) (fun c1 => ?_)
  · replace h := uu_neg c1 h
    refine uu_aload dX7_behindTest_73 (List.mem_of_getElem? (i := 2) rfl) ?_
    refine uu_geti (ci := 3) (N := 15) fX7_133 (by decide) hk7.is (by decide) (by decide) dX7_behindTest_75 ?_
    have hr := Option.some.inj h
    subst hr
    exact uu_iret rfl dX7_behindTest_78
  · replace h := uu_pos c1 h
    refine uu_aload dX7_behindTest_65 (List.mem_of_getElem? (i := 1) rfl) ?_
    refine uu_geti (ci := 3) (N := 15) fX7_130 (by decide) hk6.is (by decide) (by decide) dX7_behindTest_67 ?_
    refine uu_goto (tgt := 78) dX7_behindTest_70 (by decide) ?_
    have hr := Option.some.inj h
    subst hr
    exact uu_iret rfl dX7_behindTest_78
def fb_X7_behindTest_98 (K8 : Bool → Int32 → Int32 → uS → Option Int32) (x5 : Int32) (k6 : Nat) (bs0 : Bool) (s : uS) : Option Int32 := K8 bs0 (s.I k6 1) (x5 + 1) s
set_option maxRecDepth 100000 in
set_option maxHeartbeats 4000000 in
theorem xb_X7_behindTest_98 {l : Launch} {D : va_G} {A : Nat → ClassId} {B : Nat} {Z : State → Heap → Prop} {vF : Value} (uk : uK B Z vF) {K8 : Bool → Int32 → Int32 → uS → Option Int32} (hK8 : ∀ (b3 : Bool) (x4 : Int32) (x5 : Int32)  (s : uS) (r : Int32), K8 b3 x4 x5 s = some r → GU l D A B Z mX7_behindTest 0 (s, some (.int r)) s 8 [(0, .ref (B + 1070)), (3, .int (bI b3)), (4, .int x4), (5, .int x5)] []) {x5 : Int32} {k6 : Nat} {bs0 : Bool} {s : uS} {r : Int32} (hk6 : uSo k6 3) (h : fb_X7_behindTest_98 K8 x5 k6 bs0 s = some r) : GU l D A B Z mX7_behindTest 0 (s, some (.int r)) s 98 [(0, .ref (B + 1070)), (5, .int x5), (6, .ref (B + k6))] [.int (bI bs0)] := by
  unfold fb_X7_behindTest_98 at h
  refine uu_istore_n dX7_behindTest_98 rfl (by decide) rfl ?_
  refine uu_goto (tgt := 140) dX7_behindTest_99 (by decide) ?_
  refine uu_aload dX7_behindTest_140 (List.mem_of_getElem? (i := 3) rfl) ?_
  refine uu_geti (ci := 3) (N := 15) fX7_127 (by decide) hk6.is (by decide) (by decide) dX7_behindTest_142 ?_
  refine uu_istore dX7_behindTest_145 (by decide) rfl ?_
  refine uu_iinc (v := x5 + 1) dX7_behindTest_147 (k := 3) rfl rfl (by decide) rfl ?_
  refine uu_goto (tgt := 8) dX7_behindTest_150 (by decide) ?_
  refine uu_lv [3, 2, 1, 0] (lv' := [(0, .ref (B + 1070)), (3, .int (bI bs0)), (4, .int (s.I k6 1)), (5, .int (x5 + 1))]) rfl ?_
  exact hK8 bs0 (s.I k6 1) (x5 + 1) _ _ h
def fb_X7_behindTest_118 (K8 : Bool → Int32 → Int32 → uS → Option Int32) (b3 : Bool) (x5 : Int32) (k6 : Nat) (k7 : Nat) (bs0 : Bool) (bs1 : Bool) (s : uS) : Option Int32 := if (bI bs1) = (bI bs0) then (if (s.I k7 3) ≤ (s.I k6 3) then (K8 b3 (s.I k6 1) (x5 + 1) s) else (some (s.I k6 3))) else (K8 b3 (s.I k6 1) (x5 + 1) s)
set_option maxRecDepth 100000 in
set_option maxHeartbeats 4000000 in
theorem xb_X7_behindTest_118 {l : Launch} {D : va_G} {A : Nat → ClassId} {B : Nat} {Z : State → Heap → Prop} {vF : Value} (uk : uK B Z vF) {K8 : Bool → Int32 → Int32 → uS → Option Int32} (hK8 : ∀ (b3 : Bool) (x4 : Int32) (x5 : Int32)  (s : uS) (r : Int32), K8 b3 x4 x5 s = some r → GU l D A B Z mX7_behindTest 0 (s, some (.int r)) s 8 [(0, .ref (B + 1070)), (3, .int (bI b3)), (4, .int x4), (5, .int x5)] []) {b3 : Bool} {x5 : Int32} {k6 : Nat} {k7 : Nat} {bs0 : Bool} {bs1 : Bool} {s : uS} {r : Int32} (hk6 : uSo k6 3) (hk7 : uSo k7 3) (h : fb_X7_behindTest_118 K8 b3 x5 k6 k7 bs0 bs1 s = some r) : GU l D A B Z mX7_behindTest 0 (s, some (.int r)) s 118 [(0, .ref (B + 1070)), (3, .int (bI b3)), (5, .int x5), (6, .ref (B + k6)), (7, .ref (B + k7))] [.int (bI bs0), .int (bI bs1)] := by
  unfold fb_X7_behindTest_118 at h
  refine uu_icmp_ne (tgt := 140) dX7_behindTest_118 (by decide) (fun c1 => ?_) (fun c1 => ?_)
  · replace h := uu_neg c1 h
    refine uu_aload dX7_behindTest_140 (List.mem_of_getElem? (i := 3) rfl) ?_
    refine uu_geti (ci := 3) (N := 15) fX7_127 (by decide) hk6.is (by decide) (by decide) dX7_behindTest_142 ?_
    refine uu_istore dX7_behindTest_145 (by decide) rfl ?_
    refine uu_iinc (v := x5 + 1) dX7_behindTest_147 (k := 3) rfl rfl (by decide) rfl ?_
    refine uu_goto (tgt := 8) dX7_behindTest_150 (by decide) ?_
    refine uu_lv [2, 3, 1, 0] (lv' := [(0, .ref (B + 1070)), (3, .int (bI b3)), (4, .int (s.I k6 1)), (5, .int (x5 + 1))]) rfl ?_
    exact hK8 b3 (s.I k6 1) (x5 + 1) _ _ h
  · replace h := uu_pos c1 h
    refine uu_aload dX7_behindTest_121 (List.mem_of_getElem? (i := 3) rfl) ?_
    refine uu_geti (ci := 3) (N := 15) fX7_130 (by decide) hk6.is (by decide) (by decide) dX7_behindTest_123 ?_
    refine uu_aload dX7_behindTest_126 (List.mem_of_getElem? (i := 4) rfl) ?_
    refine uu_geti (ci := 3) (N := 15) fX7_130 (by decide) hk7.is (by decide) (by decide) dX7_behindTest_128 ?_
    refine uu_icmp_ge (tgt := 140) dX7_behindTest_131 (by decide) (fun c2 => ?_) (fun c2 => ?_)
    · replace h := uu_pos c2 h
      refine uu_aload dX7_behindTest_140 (List.mem_of_getElem? (i := 3) rfl) ?_
      refine uu_geti (ci := 3) (N := 15) fX7_127 (by decide) hk6.is (by decide) (by decide) dX7_behindTest_142 ?_
      refine uu_istore dX7_behindTest_145 (by decide) rfl ?_
      refine uu_iinc (v := x5 + 1) dX7_behindTest_147 (k := 3) rfl rfl (by decide) rfl ?_
      refine uu_goto (tgt := 8) dX7_behindTest_150 (by decide) ?_
      refine uu_lv [2, 3, 1, 0] (lv' := [(0, .ref (B + 1070)), (3, .int (bI b3)), (4, .int (s.I k6 1)), (5, .int (x5 + 1))]) rfl ?_
      exact hK8 b3 (s.I k6 1) (x5 + 1) _ _ h
    · replace h := uu_neg c2 h
      refine uu_aload dX7_behindTest_134 (List.mem_of_getElem? (i := 3) rfl) ?_
      refine uu_geti (ci := 3) (N := 15) fX7_130 (by decide) hk6.is (by decide) (by decide) dX7_behindTest_136 ?_
      have hr := Option.some.inj h
      subst hr
      exact uu_iret rfl dX7_behindTest_139
def fb_X7_behindTest_8 (K8 : Bool → Int32 → Int32 → uS → Option Int32) (b3 : Bool) (x4 : Int32) (x5 : Int32) (s : uS) : Option Int32 := if (320 : Int32) ≤ x5 then (some (s.I 6 2)) else ((pgt 28 s 13 x4).bind fun j2 => if uSo j2 3 then ((pgt 28 s 13 (s.I j2 1)).bind fun j5 => if uSo j5 3 then (if (s.I j5 0) = 0 then (fb_X7_behindTest_61 b3 j2 j5 s) else (if (s.I j5 0) = 22 then (fb_X7_behindTest_61 b3 j2 j5 s) else (if (s.I j5 0) = 19 then (if b3 = true then (fb_X7_behindTest_98 K8 x5 j2 false s) else (fb_X7_behindTest_98 K8 x5 j2 true s)) else (if (s.I j5 0) = 17 then (fb_X7_behindTest_118 K8 b3 x5 j2 j5 true b3 s) else (fb_X7_behindTest_118 K8 b3 x5 j2 j5 false b3 s))))) else none) else none)
set_option maxRecDepth 100000 in
set_option maxHeartbeats 4000000 in
theorem xb_X7_behindTest_8 {l : Launch} {D : va_G} {A : Nat → ClassId} {B : Nat} {Z : State → Heap → Prop} {vF : Value} (uk : uK B Z vF) {K8 : Bool → Int32 → Int32 → uS → Option Int32} (hK8 : ∀ (b3 : Bool) (x4 : Int32) (x5 : Int32)  (s : uS) (r : Int32), K8 b3 x4 x5 s = some r → GU l D A B Z mX7_behindTest 0 (s, some (.int r)) s 8 [(0, .ref (B + 1070)), (3, .int (bI b3)), (4, .int x4), (5, .int x5)] []) {b3 : Bool} {x4 : Int32} {x5 : Int32} {s : uS} {r : Int32}  (h : fb_X7_behindTest_8 K8 b3 x4 x5 s = some r) : GU l D A B Z mX7_behindTest 0 (s, some (.int r)) s 8 [(0, .ref (B + 1070)), (3, .int (bI b3)), (4, .int x4), (5, .int x5)] [] := by
  unfold fb_X7_behindTest_8 at h
  refine uu_iload dX7_behindTest_8 (List.mem_of_getElem? (i := 3) rfl) ?_
  refine uu_sipush (v := 320) dX7_behindTest_10 (by decide) ?_
  refine uu_icmp_ge (tgt := 153) dX7_behindTest_13 (by decide) (fun c1 => ?_) (fun c1 => ?_)
  · replace h := uu_pos c1 h
    refine uu_aload_n dX7_behindTest_153 rfl (List.mem_of_getElem? (i := 0) rfl) ?_
    refine uu_geta (ci := 7) (N := 20) fX7_33 (by decide) so_1070.is (by decide) (c := 6) (by decide) dX7_behindTest_154 ?_
    refine uu_geti (ci := 4) (N := 9) fX7_89 (by decide) so_6.is (by decide) (by decide) dX7_behindTest_157 ?_
    have hr := Option.some.inj h
    subst hr
    exact uu_iret rfl dX7_behindTest_160
  · replace h := uu_neg c1 h
    refine uu_aload_n dX7_behindTest_16 rfl (List.mem_of_getElem? (i := 0) rfl) ?_
    refine uu_geta (ci := 7) (N := 20) fX7_33 (by decide) so_1070.is (by decide) (c := 6) (by decide) dX7_behindTest_17 ?_
    refine uu_geta (ci := 4) (N := 9) fX7_92 (by decide) so_6.is (by decide) (c := 13) (by decide) dX7_behindTest_20 ?_
    refine uu_iload dX7_behindTest_23 (List.mem_of_getElem? (i := 2) rfl) ?_
    obtain ⟨j2, e3, h⟩ := uu_ob h
    refine uu_aald (t := 28) rfl (by decide) e3 dX7_behindTest_25 ?_
    obtain ⟨g4, h⟩ := uu_grd h
    refine uu_astore dX7_behindTest_26 (by decide) rfl ?_
    refine uu_aload_n dX7_behindTest_28 rfl (List.mem_of_getElem? (i := 1) rfl) ?_
    refine uu_geta (ci := 7) (N := 20) fX7_33 (by decide) so_1070.is (by decide) (c := 6) (by decide) dX7_behindTest_29 ?_
    refine uu_geta (ci := 4) (N := 9) fX7_92 (by decide) so_6.is (by decide) (c := 13) (by decide) dX7_behindTest_32 ?_
    refine uu_aload dX7_behindTest_35 (List.mem_of_getElem? (i := 0) rfl) ?_
    refine uu_geti (ci := 3) (N := 15) fX7_127 (by decide) g4.is (by decide) (by decide) dX7_behindTest_37 ?_
    obtain ⟨j5, e6, h⟩ := uu_ob h
    refine uu_aald (t := 28) rfl (by decide) e6 dX7_behindTest_40 ?_
    obtain ⟨g7, h⟩ := uu_grd h
    refine uu_astore dX7_behindTest_41 (by decide) rfl ?_
    refine uu_aload dX7_behindTest_43 (List.mem_of_getElem? (i := 0) rfl) ?_
    refine uu_geti (ci := 3) (N := 15) fX7_116 (by decide) g7.is (by decide) (by decide) dX7_behindTest_45 ?_
    refine uu_if_eq (tgt := 61) dX7_behindTest_48 (by decide) (fun c8 => ?_) (fun c8 => ?_)
    · replace h := uu_pos c8 h
      refine uu_lv [3, 1, 0] (lv' := [(3, .int (bI b3)), (6, .ref (B + j2)), (7, .ref (B + j5))]) rfl ?_
      exact xb_X7_behindTest_61 uk g4 g7 h
    · replace h := uu_neg c8 h
      refine uu_aload dX7_behindTest_51 (List.mem_of_getElem? (i := 0) rfl) ?_
      refine uu_geti (ci := 3) (N := 15) fX7_116 (by decide) g7.is (by decide) (by decide) dX7_behindTest_53 ?_
      refine uu_bipush (v := 22) dX7_behindTest_56 (by decide) ?_
      refine uu_icmp_ne (tgt := 79) dX7_behindTest_58 (by decide) (fun c9 => ?_) (fun c9 => ?_)
      · replace h := uu_neg c9 h
        refine uu_aload dX7_behindTest_79 (List.mem_of_getElem? (i := 0) rfl) ?_
        refine uu_geti (ci := 3) (N := 15) fX7_116 (by decide) g7.is (by decide) (by decide) dX7_behindTest_81 ?_
        refine uu_bipush (v := 19) dX7_behindTest_84 (by decide) ?_
        refine uu_icmp_ne (tgt := 102) dX7_behindTest_86 (by decide) (fun c10 => ?_) (fun c10 => ?_)
        · replace h := uu_neg c10 h
          refine uu_iload_n dX7_behindTest_102 rfl (List.mem_of_getElem? (i := 3) rfl) ?_
          refine uu_aload dX7_behindTest_103 (List.mem_of_getElem? (i := 0) rfl) ?_
          refine uu_geti (ci := 3) (N := 15) fX7_116 (by decide) g7.is (by decide) (by decide) dX7_behindTest_105 ?_
          refine uu_bipush (v := 17) dX7_behindTest_108 (by decide) ?_
          refine uu_icmp_ne (tgt := 117) dX7_behindTest_110 (by decide) (fun c11 => ?_) (fun c11 => ?_)
          · replace h := uu_neg c11 h
            refine uu_iconst (v := 0) dX7_behindTest_117 (by decide) ?_
            refine uu_lv [2, 3, 5, 1, 0] (lv' := [(0, .ref (B + 1070)), (3, .int (bI b3)), (5, .int x5), (6, .ref (B + j2)), (7, .ref (B + j5))]) rfl ?_
            exact xb_X7_behindTest_118 uk hK8 g4 g7 h
          · replace h := uu_pos c11 h
            refine uu_iconst (v := 1) dX7_behindTest_113 (by decide) ?_
            refine uu_goto (tgt := 118) dX7_behindTest_114 (by decide) ?_
            refine uu_lv [2, 3, 5, 1, 0] (lv' := [(0, .ref (B + 1070)), (3, .int (bI b3)), (5, .int x5), (6, .ref (B + j2)), (7, .ref (B + j5))]) rfl ?_
            exact xb_X7_behindTest_118 uk hK8 g4 g7 h
        · replace h := uu_pos c10 h
          refine uu_iload_n dX7_behindTest_89 rfl (List.mem_of_getElem? (i := 3) rfl) ?_
          refine uu_ifb_ne (tgt := 97) dX7_behindTest_90 (by decide) (fun c12 => ?_) (fun c12 => ?_)
          · replace h := uu_pos c12 h
            refine uu_iconst (v := 0) dX7_behindTest_97 (by decide) ?_
            refine uu_lv [2, 5, 1] (lv' := [(0, .ref (B + 1070)), (5, .int x5), (6, .ref (B + j2))]) rfl ?_
            exact xb_X7_behindTest_98 uk hK8 g4 h
          · replace h := uu_neg c12 h
            refine uu_iconst (v := 1) dX7_behindTest_93 (by decide) ?_
            refine uu_goto (tgt := 98) dX7_behindTest_94 (by decide) ?_
            refine uu_lv [2, 5, 1] (lv' := [(0, .ref (B + 1070)), (5, .int x5), (6, .ref (B + j2))]) rfl ?_
            exact xb_X7_behindTest_98 uk hK8 g4 h
      · replace h := uu_pos c9 h
        refine uu_lv [3, 1, 0] (lv' := [(3, .int (bI b3)), (6, .ref (B + j2)), (7, .ref (B + j5))]) rfl ?_
        exact xb_X7_behindTest_61 uk g4 g7 h
def fn_X7_behindTest_8  : Nat → Bool → Int32 → Int32 → uS → Option Int32
  | 0 => fun _ _ _ _ => none
  | n + 1 => fb_X7_behindTest_8 (fn_X7_behindTest_8  n)
set_option maxRecDepth 100000 in
set_option maxHeartbeats 4000000 in
theorem xn_X7_behindTest_8 {l : Launch} {D : va_G} {A : Nat → ClassId} {B : Nat} {Z : State → Heap → Prop} {vF : Value} (uk : uK B Z vF)   : ∀ (n : Nat) (b3 : Bool) (x4 : Int32) (x5 : Int32)  (s : uS) (r : Int32), fn_X7_behindTest_8  n b3 x4 x5 s = some r → GU l D A B Z mX7_behindTest 0 (s, some (.int r)) s 8 [(0, .ref (B + 1070)), (3, .int (bI b3)), (4, .int x4), (5, .int x5)] [] := by
  intro n
  induction n with
  | zero => intro b3 x4 x5 s r h
            cases h
  | succ n ih => intro b3 x4 x5 s r h
                 exact xb_X7_behindTest_8 uk ih  h
def fn_X7_behindTest (x1 : Int32) (b2 : Bool) (s : uS) : Option Int32 := fn_X7_behindTest_8 uFu b2 x1 0 s
set_option maxRecDepth 100000 in
set_option maxHeartbeats 4000000 in
theorem xc_X7_behindTest {l : Launch} {D : va_G} {A : Nat → ClassId} {B : Nat} {Z : State → Heap → Prop} {vF : Value} (uk : uK B Z vF) {x1 : Int32} {b2 : Bool} {s : uS} {r : Int32}  (h : fn_X7_behindTest x1 b2 s = some r) : CU l D A B Z 0 mX7_behindTest s [.ref (B + 1070), .int x1, .int (bI b2)] (s, some (.int r)) := by
  unfold fn_X7_behindTest at h
  refine cu_of rfl uk.1.1 (Nat.le_of_ble_eq_true rfl) ?_
  show GU _ _ _ _ _ _ _ _ _ 0 [(0, .ref (B + 1070)), (1, .int x1), (2, .int (bI b2))] []
  refine uu_iload_n dX7_behindTest_0 rfl (List.mem_of_getElem? (i := 2) rfl) ?_
  refine uu_istore_n dX7_behindTest_1 rfl (by decide) rfl ?_
  refine uu_iload_n dX7_behindTest_2 rfl (List.mem_of_getElem? (i := 2) rfl) ?_
  refine uu_istore dX7_behindTest_3 (by decide) rfl ?_
  refine uu_iconst (v := 0) dX7_behindTest_5 (by decide) ?_
  refine uu_istore dX7_behindTest_6 (by decide) rfl ?_
  refine uu_lv [3, 2, 1, 0] (lv' := [(0, .ref (B + 1070)), (3, .int (bI b2)), (4, .int x1), (5, .int 0)]) rfl ?_
  exact xn_X7_behindTest_8 uk  _ _ _ _ _ _ h
abbrev mX7_behindElses : hM := (yX7_behindElses, cX7_behindElses, 3, (some (.int)))
theorem dX7_behindElses_2 : decode cX7_behindElses 2 = .ok (.iload_n 2, 1) := by decide +kernel
theorem dX7_behindElses_3 : decode cX7_behindElses 3 = .ok (.aload_n 0, 1) := by decide +kernel
theorem dX7_behindElses_4 : decode cX7_behindElses 4 = .ok (.getfield 33, 3) := by decide +kernel
theorem dX7_behindElses_7 : decode cX7_behindElses 7 = .ok (.getfield 89, 3) := by decide +kernel
theorem dX7_behindElses_10 : decode cX7_behindElses 10 = .ok (.if_icmp .ge 40, 3) := by decide +kernel
theorem dX7_behindElses_50 : decode cX7_behindElses 50 = .ok (.iload_n 2, 1) := by decide +kernel
theorem dX7_behindElses_51 : decode cX7_behindElses 51 = .ok (.ireturn, 1) := by decide +kernel
theorem dX7_behindElses_13 : decode cX7_behindElses 13 = .ok (.aload_n 0, 1) := by decide +kernel
theorem dX7_behindElses_14 : decode cX7_behindElses 14 = .ok (.getfield 33, 3) := by decide +kernel
theorem dX7_behindElses_17 : decode cX7_behindElses 17 = .ok (.getfield 92, 3) := by decide +kernel
theorem dX7_behindElses_20 : decode cX7_behindElses 20 = .ok (.iload_n 2, 1) := by decide +kernel
theorem dX7_behindElses_21 : decode cX7_behindElses 21 = .ok (.aaload, 1) := by decide +kernel
theorem kX3_isElse : h_ml mX3_isElse 0 := ⟨h_t6 6 rfl rfl, h_t1 5 rfl rfl, ⟨by decide, by decide, by decide +kernel⟩, by decide⟩
theorem lX7_136 : Cond.methodLink RX7 136 mX3_isElse.1 ∈ lw_g := h_t6 3 rfl rfl
theorem sX3_isElse : Cond.instanceMethod mX3_isElse.1 ∈ lw_g ∧ Cond.selects mX3_isElse.1.cls mX3_isElse.1 mX3_isElse.1 ∈ lw_g := ⟨h_t6 4 rfl rfl, h_t6 5 rfl rfl⟩
theorem dX7_behindElses_22 : decode cX7_behindElses 22 = .ok (.invokevirtual 136, 3) := by decide +kernel
theorem dX7_behindElses_25 : decode cX7_behindElses 25 = .ok (.ifCond .eq 25, 3) := by decide +kernel
theorem dX7_behindElses_28 : decode cX7_behindElses 28 = .ok (.iload_n 2, 1) := by decide +kernel
theorem dX7_behindElses_29 : decode cX7_behindElses 29 = .ok (.iconst 1, 1) := by decide +kernel
theorem dX7_behindElses_30 : decode cX7_behindElses 30 = .ok (.iadd, 1) := by decide +kernel
theorem dX7_behindElses_31 : decode cX7_behindElses 31 = .ok (.aload_n 0, 1) := by decide +kernel
theorem dX7_behindElses_32 : decode cX7_behindElses 32 = .ok (.getfield 33, 3) := by decide +kernel
theorem dX7_behindElses_35 : decode cX7_behindElses 35 = .ok (.getfield 92, 3) := by decide +kernel
theorem dX7_behindElses_38 : decode cX7_behindElses 38 = .ok (.iload_n 2, 1) := by decide +kernel
theorem dX7_behindElses_39 : decode cX7_behindElses 39 = .ok (.aaload, 1) := by decide +kernel
theorem dX7_behindElses_40 : decode cX7_behindElses 40 = .ok (.getfield 133, 3) := by decide +kernel
theorem lX7_139 : Cond.methodLink RX7 139 Lib.Math.max.name ∈ lw_g := h_t6 7 rfl rfl
theorem dX7_behindElses_43 : decode cX7_behindElses 43 = .ok (.invokestatic 139, 3) := by decide +kernel
theorem dX7_behindElses_46 : decode cX7_behindElses 46 = .ok (.istore_n 2, 1) := by decide +kernel
theorem dX7_behindElses_47 : decode cX7_behindElses 47 = .ok (.goto (-45), 3) := by decide +kernel
theorem dX7_behindElses_0 : decode cX7_behindElses 0 = .ok (.iload_n 1, 1) := by decide +kernel
theorem dX7_behindElses_1 : decode cX7_behindElses 1 = .ok (.istore_n 2, 1) := by decide +kernel
def fb_X7_behindElses_2 (K2 : Int32 → uS → Option Int32) (x2 : Int32) (s : uS) : Option Int32 := if (s.I 6 2) ≤ x2 then (some x2) else ((pgt 28 s 13 x2).bind fun j2 => if uSo j2 3 then ((fn_X3_isElse j2 s).bind fun v5 => if v5 = true then ((pgt 28 s 13 x2).bind fun j8 => if uSo j8 3 then (K2 (if (x2 + 1) < (s.I j8 4) then (s.I j8 4) else (x2 + 1)) s) else none) else (some x2)) else none)
set_option maxRecDepth 100000 in
set_option maxHeartbeats 4000000 in
theorem xb_X7_behindElses_2 {l : Launch} {D : va_G} {A : Nat → ClassId} {B : Nat} {Z : State → Heap → Prop} {vF : Value} (uk : uK B Z vF) {K2 : Int32 → uS → Option Int32} (hK2 : ∀ (x2 : Int32)  (s : uS) (r : Int32), K2 x2 s = some r → GU l D A B Z mX7_behindElses 1 (s, some (.int r)) s 2 [(0, .ref (B + 1070)), (2, .int x2)] []) {x2 : Int32} {s : uS} {r : Int32}  (h : fb_X7_behindElses_2 K2 x2 s = some r) : GU l D A B Z mX7_behindElses 1 (s, some (.int r)) s 2 [(0, .ref (B + 1070)), (2, .int x2)] [] := by
  unfold fb_X7_behindElses_2 at h
  refine uu_iload_n dX7_behindElses_2 rfl (List.mem_of_getElem? (i := 1) rfl) ?_
  refine uu_aload_n dX7_behindElses_3 rfl (List.mem_of_getElem? (i := 0) rfl) ?_
  refine uu_geta (ci := 7) (N := 20) fX7_33 (by decide) so_1070.is (by decide) (c := 6) (by decide) dX7_behindElses_4 ?_
  refine uu_geti (ci := 4) (N := 9) fX7_89 (by decide) so_6.is (by decide) (by decide) dX7_behindElses_7 ?_
  refine uu_icmp_ge (tgt := 50) dX7_behindElses_10 (by decide) (fun c1 => ?_) (fun c1 => ?_)
  · replace h := uu_pos c1 h
    refine uu_iload_n dX7_behindElses_50 rfl (List.mem_of_getElem? (i := 1) rfl) ?_
    have hr := Option.some.inj h
    subst hr
    exact uu_iret rfl dX7_behindElses_51
  · replace h := uu_neg c1 h
    refine uu_aload_n dX7_behindElses_13 rfl (List.mem_of_getElem? (i := 0) rfl) ?_
    refine uu_geta (ci := 7) (N := 20) fX7_33 (by decide) so_1070.is (by decide) (c := 6) (by decide) dX7_behindElses_14 ?_
    refine uu_geta (ci := 4) (N := 9) fX7_92 (by decide) so_6.is (by decide) (c := 13) (by decide) dX7_behindElses_17 ?_
    refine uu_iload_n dX7_behindElses_20 rfl (List.mem_of_getElem? (i := 1) rfl) ?_
    obtain ⟨j2, e3, h⟩ := uu_ob h
    refine uu_aald (t := 28) rfl (by decide) e3 dX7_behindElses_21 ?_
    obtain ⟨g4, h⟩ := uu_grd h
    obtain ⟨v5, e6, h⟩ := uu_ob h
    refine uu_cv (d1 := 0) (k := j2) (ci := 3) (T := TX3) (N := 15) (As := []) (st := []) (st' := [.int (bI v5)]) (xc_X3_isElse uk g4 e6) g4.is (by decide) rfl kX3_isElse lX7_136 sX3_isElse (by decide) (Nat.le_of_ble_eq_true rfl) dX7_behindElses_22 rfl ?_
    refine uu_ifb_eq (tgt := 50) dX7_behindElses_25 (by decide) (fun c7 => ?_) (fun c7 => ?_)
    · replace h := uu_neg c7 h
      refine uu_iload_n dX7_behindElses_50 rfl (List.mem_of_getElem? (i := 1) rfl) ?_
      have hr := Option.some.inj h
      subst hr
      exact uu_iret rfl dX7_behindElses_51
    · replace h := uu_pos c7 h
      refine uu_iload_n dX7_behindElses_28 rfl (List.mem_of_getElem? (i := 1) rfl) ?_
      refine uu_iconst (v := 1) dX7_behindElses_29 (by decide) ?_
      refine uu_iadd dX7_behindElses_30 ?_
      refine uu_aload_n dX7_behindElses_31 rfl (List.mem_of_getElem? (i := 0) rfl) ?_
      refine uu_geta (ci := 7) (N := 20) fX7_33 (by decide) so_1070.is (by decide) (c := 6) (by decide) dX7_behindElses_32 ?_
      refine uu_geta (ci := 4) (N := 9) fX7_92 (by decide) so_6.is (by decide) (c := 13) (by decide) dX7_behindElses_35 ?_
      refine uu_iload_n dX7_behindElses_38 rfl (List.mem_of_getElem? (i := 1) rfl) ?_
      obtain ⟨j8, e9, h⟩ := uu_ob h
      refine uu_aald (t := 28) rfl (by decide) e9 dX7_behindElses_39 ?_
      obtain ⟨g10, h⟩ := uu_grd h
      refine uu_geti (ci := 3) (N := 15) fX7_133 (by decide) g10.is (by decide) (by decide) dX7_behindElses_40 ?_
      refine uu_mmax lX7_139 (by decide) (Nat.le_of_ble_eq_true rfl) dX7_behindElses_43 ?_
      refine uu_istore_n dX7_behindElses_46 rfl (by decide) rfl ?_
      refine uu_goto (tgt := 2) dX7_behindElses_47 (by decide) ?_
      refine uu_lv [1, 0] (lv' := [(0, .ref (B + 1070)), (2, .int (if (x2 + 1) < (s.I j8 4) then (s.I j8 4) else (x2 + 1)))]) rfl ?_
      exact hK2 (if (x2 + 1) < (s.I j8 4) then (s.I j8 4) else (x2 + 1)) _ _ h
def fn_X7_behindElses_2  : Nat → Int32 → uS → Option Int32
  | 0 => fun _ _ => none
  | n + 1 => fb_X7_behindElses_2 (fn_X7_behindElses_2  n)
set_option maxRecDepth 100000 in
set_option maxHeartbeats 4000000 in
theorem xn_X7_behindElses_2 {l : Launch} {D : va_G} {A : Nat → ClassId} {B : Nat} {Z : State → Heap → Prop} {vF : Value} (uk : uK B Z vF)   : ∀ (n : Nat) (x2 : Int32)  (s : uS) (r : Int32), fn_X7_behindElses_2  n x2 s = some r → GU l D A B Z mX7_behindElses 1 (s, some (.int r)) s 2 [(0, .ref (B + 1070)), (2, .int x2)] [] := by
  intro n
  induction n with
  | zero => intro x2 s r h
            cases h
  | succ n ih => intro x2 s r h
                 exact xb_X7_behindElses_2 uk ih  h
def fn_X7_behindElses (x1 : Int32) (s : uS) : Option Int32 := fn_X7_behindElses_2 uFu x1 s
set_option maxRecDepth 100000 in
set_option maxHeartbeats 4000000 in
theorem xc_X7_behindElses {l : Launch} {D : va_G} {A : Nat → ClassId} {B : Nat} {Z : State → Heap → Prop} {vF : Value} (uk : uK B Z vF) {x1 : Int32} {s : uS} {r : Int32}  (h : fn_X7_behindElses x1 s = some r) : CU l D A B Z 1 mX7_behindElses s [.ref (B + 1070), .int x1] (s, some (.int r)) := by
  unfold fn_X7_behindElses at h
  refine cu_of rfl uk.1.1 (Nat.le_of_ble_eq_true rfl) ?_
  show GU _ _ _ _ _ _ _ _ _ 0 [(0, .ref (B + 1070)), (1, .int x1)] []
  refine uu_iload_n dX7_behindElses_0 rfl (List.mem_of_getElem? (i := 1) rfl) ?_
  refine uu_istore_n dX7_behindElses_1 rfl (by decide) rfl ?_
  refine uu_lv [1, 0] (lv' := [(0, .ref (B + 1070)), (2, .int x1)]) rfl ?_
  exact xn_X7_behindElses_2 uk  _ _ _ _ h
abbrev mX7_fail : hM := (yX7_fail, cX7_fail, 1, none)
theorem dX7_fail_0 : decode cX7_fail 0 = .ok (.aload_n 0, 1) := by decide +kernel
theorem dX7_fail_1 : decode cX7_fail 1 = .ok (.iconst 1, 1) := by decide +kernel
theorem dX7_fail_2 : decode cX7_fail 2 = .ok (.putfield 49, 3) := by decide +kernel
theorem dX7_fail_5 : decode cX7_fail 5 = .ok (.aload_n 0, 1) := by decide +kernel
theorem dX7_fail_6 : decode cX7_fail 6 = .ok (.iconst 1, 1) := by decide +kernel
theorem dX7_fail_7 : decode cX7_fail 7 = .ok (.putfield 53, 3) := by decide +kernel
theorem dX7_fail_10 : decode cX7_fail 10 = .ok (.return_, 1) := by decide +kernel
def fn_X7_fail  (s : uS) : Option uS := some (wI (wI s 1070 16 1) 1070 17 1)
set_option maxRecDepth 100000 in
set_option maxHeartbeats 4000000 in
theorem xc_X7_fail {l : Launch} {D : va_G} {A : Nat → ClassId} {B : Nat} {Z : State → Heap → Prop} {vF : Value} (uk : uK B Z vF)  {s : uS} {r : uS}  (h : fn_X7_fail  s = some r) : CU l D A B Z 0 mX7_fail s [.ref (B + 1070)] (r, none) := by
  unfold fn_X7_fail at h
  refine cu_of rfl uk.1.1 (Nat.le_of_ble_eq_true rfl) ?_
  show GU _ _ _ _ _ _ _ _ _ 0 [(0, .ref (B + 1070))] []
  refine uu_aload_n dX7_fail_0 rfl (List.mem_of_getElem? (i := 0) rfl) ?_
  refine uu_iconst (v := 1) dX7_fail_1 (by decide) ?_
  refine uu_puti (ft := .boolean) (ci := 7) (N := 20) fX7_49 ptX7 (Or.inl rfl) (by decide) so_1070.is (by decide) (by decide) (by decide +kernel) rfl rfl dX7_fail_2 ?_
  refine uu_aload_n dX7_fail_5 rfl (List.mem_of_getElem? (i := 0) rfl) ?_
  refine uu_iconst (v := 1) dX7_fail_6 (by decide) ?_
  refine uu_puti (ft := .boolean) (ci := 7) (N := 20) fX7_53 ptX7 (Or.inl rfl) (by decide) so_1070.is (by decide) (by decide) (by decide +kernel) rfl rfl dX7_fail_7 ?_
  have hr := Option.some.inj h
  subst hr
  exact uu_vret rfl dX7_fail_10
abbrev mX7_act : hM := (yX7_act, cX7_act, 2, (some (.boolean)))
theorem dX7_act_0 : decode cX7_act 0 = .ok (.aload_n 0, 1) := by decide +kernel
theorem dX7_act_1 : decode cX7_act 1 = .ok (.getfield 72, 3) := by decide +kernel
theorem dX7_act_4 : decode cX7_act 4 = .ok (.ifnull 9, 3) := by decide +kernel
theorem dX7_act_13 : decode cX7_act 13 = .ok (.aload_n 0, 1) := by decide +kernel
theorem dX7_act_14 : decode cX7_act 14 = .ok (.iconst 1, 1) := by decide +kernel
theorem dX7_act_15 : decode cX7_act 15 = .ok (.putfield 78, 3) := by decide +kernel
theorem dX7_act_18 : decode cX7_act 18 = .ok (.aload_n 0, 1) := by decide +kernel
theorem dX7_act_19 : decode cX7_act 19 = .ok (.aload_n 0, 1) := by decide +kernel
theorem dX7_act_20 : decode cX7_act 20 = .ok (.getfield 81, 3) := by decide +kernel
theorem dX7_act_23 : decode cX7_act 23 = .ok (.ifCond .eq 16, 3) := by decide +kernel
theorem dX7_act_39 : decode cX7_act 39 = .ok (.iconst 0, 1) := by decide +kernel
theorem dX7_act_40 : decode cX7_act 40 = .ok (.putfield 81, 3) := by decide +kernel
theorem dX7_act_43 : decode cX7_act 43 = .ok (.iconst 1, 1) := by decide +kernel
theorem dX7_act_44 : decode cX7_act 44 = .ok (.ireturn, 1) := by decide +kernel
theorem dX7_act_26 : decode cX7_act 26 = .ok (.aload_n 1, 1) := by decide +kernel
theorem dX7_act_27 : decode cX7_act 27 = .ok (.bipush 16, 2) := by decide +kernel
theorem lX7_168 : Cond.methodLink RX7 168 mX3_has.1 ∈ lw_g := h_t6 24 rfl rfl
theorem dX7_act_29 : decode cX7_act 29 = .ok (.invokevirtual 168, 3) := by decide +kernel
theorem dX7_act_32 : decode cX7_act 32 = .ok (.ifCond .eq 7, 3) := by decide +kernel
theorem dX7_act_35 : decode cX7_act 35 = .ok (.iconst 1, 1) := by decide +kernel
theorem dX7_act_36 : decode cX7_act 36 = .ok (.goto 4, 3) := by decide +kernel
theorem dX7_act_7 : decode cX7_act 7 = .ok (.aload_n 0, 1) := by decide +kernel
theorem kX7_fail : h_ml mX7_fail 0 := ⟨h_t6 23 rfl rfl, h_t1 15 rfl rfl, ⟨by decide, by decide, by decide +kernel⟩, by decide⟩
theorem lX7_165 : Cond.methodLink RX7 165 mX7_fail.1 ∈ lw_g := h_t6 20 rfl rfl
theorem sX7_fail : Cond.instanceMethod mX7_fail.1 ∈ lw_g ∧ Cond.selects mX7_fail.1.cls mX7_fail.1 mX7_fail.1 ∈ lw_g := ⟨h_t6 22 rfl rfl, h_ins 60 rfl⟩
theorem dX7_act_8 : decode cX7_act 8 = .ok (.invokevirtual 165, 3) := by decide +kernel
theorem dX7_act_11 : decode cX7_act 11 = .ok (.iconst 0, 1) := by decide +kernel
theorem dX7_act_12 : decode cX7_act 12 = .ok (.ireturn, 1) := by decide +kernel
def fn_X7_act (k1 : Nat) (s : uS) : Option (uS × Bool) := (match s.R 1070 10 with | none => if ((wI s 1070 15 1).I 1070 14) = 0 then (some (wI (wI s 1070 15 1) 1070 14 0, true)) else ((fn_X3_has k1 16 (wI s 1070 15 1)).bind fun v3 => if v3 = true then (some (wI (wI s 1070 15 1) 1070 14 1, true)) else (some (wI (wI s 1070 15 1) 1070 14 0, true))) | some j1 => if uSo j1 3 then ((fn_X7_fail s).bind fun s6 => some (s6, false)) else none)
set_option maxRecDepth 100000 in
set_option maxHeartbeats 4000000 in
theorem xc_X7_act {l : Launch} {D : va_G} {A : Nat → ClassId} {B : Nat} {Z : State → Heap → Prop} {vF : Value} (uk : uK B Z vF) {k1 : Nat} {s : uS} {r : (uS × Bool)} (hk1 : uSo k1 3) (h : fn_X7_act k1 s = some r) : CU l D A B Z 1 mX7_act s [.ref (B + 1070), .ref (B + k1)] (r.1, some (.int (bI r.2))) := by
  unfold fn_X7_act at h
  refine cu_of rfl uk.1.1 (Nat.le_of_ble_eq_true rfl) ?_
  show GU _ _ _ _ _ _ _ _ _ 0 [(0, .ref (B + 1070)), (1, .ref (B + k1))] []
  refine uu_aload_n dX7_act_0 rfl (List.mem_of_getElem? (i := 0) rfl) ?_
  refine uu_getv (ci := 7) (N := 20) fX7_72 (by decide) so_1070.is (by decide) (by decide) dX7_act_1 ?_
  cases eo1 : s.R 1070 10 with
  | none =>
    rw [eo1] at h
    refine uu_ifnullN (tgt := 13) dX7_act_4 (by decide) ?_
    refine uu_aload_n dX7_act_13 rfl (List.mem_of_getElem? (i := 0) rfl) ?_
    refine uu_iconst (v := 1) dX7_act_14 (by decide) ?_
    refine uu_puti (ft := .boolean) (ci := 7) (N := 20) fX7_78 ptX7 (Or.inl rfl) (by decide) so_1070.is (by decide) (by decide) (by decide +kernel) rfl rfl dX7_act_15 ?_
    refine uu_aload_n dX7_act_18 rfl (List.mem_of_getElem? (i := 0) rfl) ?_
    refine uu_aload_n dX7_act_19 rfl (List.mem_of_getElem? (i := 0) rfl) ?_
    refine uu_geti (ci := 7) (N := 20) fX7_81 (by decide) so_1070.is (by decide) (by decide) dX7_act_20 ?_
    refine uu_if_eq (tgt := 39) dX7_act_23 (by decide) (fun c2 => ?_) (fun c2 => ?_)
    · replace h := uu_pos c2 h
      refine uu_iconst (v := 0) dX7_act_39 (by decide) ?_
      refine uu_puti (ft := .boolean) (ci := 7) (N := 20) fX7_81 ptX7 (Or.inl rfl) (by decide) so_1070.is (by decide) (by decide) (by decide +kernel) rfl rfl dX7_act_40 ?_
      refine uu_iconst (v := 1) dX7_act_43 (by decide) ?_
      have hr := Option.some.inj h
      subst hr
      exact uu_zret (x := bI true) rfl (bI_z _) dX7_act_44
    · replace h := uu_neg c2 h
      refine uu_aload_n dX7_act_26 rfl (List.mem_of_getElem? (i := 1) rfl) ?_
      refine uu_bipush (v := 16) dX7_act_27 (by decide) ?_
      obtain ⟨v3, e4, h⟩ := uu_ob h
      refine uu_cv (d1 := 0) (k := k1) (ci := 3) (T := TX3) (N := 15) (As := [.int 16]) (st := [.ref (B + 1070)]) (st' := [.int (bI v3), .ref (B + 1070)]) (xc_X3_has uk hk1 e4) hk1.is (by decide) rfl kX3_has lX7_168 sX3_has (by decide) (Nat.le_of_ble_eq_true rfl) dX7_act_29 rfl ?_
      refine uu_ifb_eq (tgt := 39) dX7_act_32 (by decide) (fun c5 => ?_) (fun c5 => ?_)
      · replace h := uu_neg c5 h
        refine uu_iconst (v := 0) dX7_act_39 (by decide) ?_
        refine uu_puti (ft := .boolean) (ci := 7) (N := 20) fX7_81 ptX7 (Or.inl rfl) (by decide) so_1070.is (by decide) (by decide) (by decide +kernel) rfl rfl dX7_act_40 ?_
        refine uu_iconst (v := 1) dX7_act_43 (by decide) ?_
        have hr := Option.some.inj h
        subst hr
        exact uu_zret (x := bI true) rfl (bI_z _) dX7_act_44
      · replace h := uu_pos c5 h
        refine uu_iconst (v := 1) dX7_act_35 (by decide) ?_
        refine uu_goto (tgt := 40) dX7_act_36 (by decide) ?_
        refine uu_puti (ft := .boolean) (ci := 7) (N := 20) fX7_81 ptX7 (Or.inl rfl) (by decide) so_1070.is (by decide) (by decide) (by decide +kernel) rfl rfl dX7_act_40 ?_
        refine uu_iconst (v := 1) dX7_act_43 (by decide) ?_
        have hr := Option.some.inj h
        subst hr
        exact uu_zret (x := bI true) rfl (bI_z _) dX7_act_44
  | some j1 =>
    rw [eo1] at h
    obtain ⟨hj1, h⟩ := uu_grd h
    refine uu_ifnull dX7_act_4 ?_
    refine uu_aload_n dX7_act_7 rfl (List.mem_of_getElem? (i := 0) rfl) ?_
    obtain ⟨s6, e7, h⟩ := uu_ob h
    refine uu_cv (d1 := 0) (k := 1070) (ci := 7) (T := TX7) (N := 20) (As := []) (st := []) (st' := []) (xc_X7_fail uk  e7) so_1070.is (by decide) rfl kX7_fail lX7_165 sX7_fail (by decide) (Nat.le_of_ble_eq_true rfl) dX7_act_8 rfl ?_
    refine uu_iconst (v := 0) dX7_act_11 (by decide) ?_
    have hr := Option.some.inj h
    subst hr
    exact uu_zret (x := bI false) rfl (bI_z _) dX7_act_12
abbrev mX7_addFile : hM := (yX7_addFile, cX7_addFile, 4, none)
theorem dX7_addFile_2 : decode cX7_addFile 2 = .ok (.iload_n 3, 1) := by decide +kernel
theorem dX7_addFile_3 : decode cX7_addFile 3 = .ok (.aload_n 0, 1) := by decide +kernel
theorem dX7_addFile_4 : decode cX7_addFile 4 = .ok (.getfield 59, 3) := by decide +kernel
theorem dX7_addFile_7 : decode cX7_addFile 7 = .ok (.if_icmp .ge 20, 3) := by decide +kernel
theorem dX7_addFile_27 : decode cX7_addFile 27 = .ok (.aload_n 0, 1) := by decide +kernel
theorem dX7_addFile_28 : decode cX7_addFile 28 = .ok (.getfield 59, 3) := by decide +kernel
theorem dX7_addFile_31 : decode cX7_addFile 31 = .ok (.aload_n 0, 1) := by decide +kernel
theorem dX7_addFile_32 : decode cX7_addFile 32 = .ok (.getfield 9, 3) := by decide +kernel
theorem dX7_addFile_35 : decode cX7_addFile 35 = .ok (.arraylength, 1) := by decide +kernel
theorem dX7_addFile_36 : decode cX7_addFile 36 = .ok (.if_icmp .ge 33, 3) := by decide +kernel
theorem dX7_addFile_69 : decode cX7_addFile 69 = .ok (.return_, 1) := by decide +kernel
theorem dX7_addFile_39 : decode cX7_addFile 39 = .ok (.aload_n 0, 1) := by decide +kernel
theorem dX7_addFile_40 : decode cX7_addFile 40 = .ok (.getfield 9, 3) := by decide +kernel
theorem dX7_addFile_43 : decode cX7_addFile 43 = .ok (.aload_n 0, 1) := by decide +kernel
theorem dX7_addFile_44 : decode cX7_addFile 44 = .ok (.getfield 59, 3) := by decide +kernel
theorem dX7_addFile_47 : decode cX7_addFile 47 = .ok (.iload_n 1, 1) := by decide +kernel
theorem dX7_addFile_48 : decode cX7_addFile 48 = .ok (.iastore, 1) := by decide +kernel
theorem dX7_addFile_49 : decode cX7_addFile 49 = .ok (.aload_n 0, 1) := by decide +kernel
theorem dX7_addFile_50 : decode cX7_addFile 50 = .ok (.getfield 15, 3) := by decide +kernel
theorem dX7_addFile_53 : decode cX7_addFile 53 = .ok (.aload_n 0, 1) := by decide +kernel
theorem dX7_addFile_54 : decode cX7_addFile 54 = .ok (.getfield 59, 3) := by decide +kernel
theorem dX7_addFile_57 : decode cX7_addFile 57 = .ok (.iload_n 2, 1) := by decide +kernel
theorem dX7_addFile_58 : decode cX7_addFile 58 = .ok (.iastore, 1) := by decide +kernel
theorem dX7_addFile_59 : decode cX7_addFile 59 = .ok (.aload_n 0, 1) := by decide +kernel
theorem dX7_addFile_60 : decode cX7_addFile 60 = .ok (.dup, 1) := by decide +kernel
theorem dX7_addFile_61 : decode cX7_addFile 61 = .ok (.getfield 59, 3) := by decide +kernel
theorem dX7_addFile_64 : decode cX7_addFile 64 = .ok (.iconst 1, 1) := by decide +kernel
theorem dX7_addFile_65 : decode cX7_addFile 65 = .ok (.iadd, 1) := by decide +kernel
theorem dX7_addFile_66 : decode cX7_addFile 66 = .ok (.putfield 59, 3) := by decide +kernel
theorem dX7_addFile_10 : decode cX7_addFile 10 = .ok (.aload_n 0, 1) := by decide +kernel
theorem dX7_addFile_11 : decode cX7_addFile 11 = .ok (.getfield 9, 3) := by decide +kernel
theorem dX7_addFile_14 : decode cX7_addFile 14 = .ok (.iload_n 3, 1) := by decide +kernel
theorem dX7_addFile_15 : decode cX7_addFile 15 = .ok (.iaload, 1) := by decide +kernel
theorem dX7_addFile_16 : decode cX7_addFile 16 = .ok (.iload_n 1, 1) := by decide +kernel
theorem dX7_addFile_17 : decode cX7_addFile 17 = .ok (.if_icmp .ne 4, 3) := by decide +kernel
theorem dX7_addFile_21 : decode cX7_addFile 21 = .ok (.iinc 3 1, 3) := by decide +kernel
theorem dX7_addFile_24 : decode cX7_addFile 24 = .ok (.goto (-22), 3) := by decide +kernel
theorem dX7_addFile_20 : decode cX7_addFile 20 = .ok (.return_, 1) := by decide +kernel
theorem dX7_addFile_0 : decode cX7_addFile 0 = .ok (.iconst 0, 1) := by decide +kernel
theorem dX7_addFile_1 : decode cX7_addFile 1 = .ok (.istore_n 3, 1) := by decide +kernel
def fb_X7_addFile_2 (K2 : Int32 → Int32 → Int32 → uS → Option uS) (x1 : Int32) (x2 : Int32) (x3 : Int32) (s : uS) : Option uS := if (s.I 1070 5) ≤ x3 then ((ulen s 1071).bind fun v2 => if v2 ≤ (s.I 1070 5) then (some s) else ((iput 20 s 1071 (s.I 1070 5) x1).bind fun s5 => (iput 20 s5 1072 (s5.I 1070 5) x2).bind fun s7 => some (wI s7 1070 5 ((s7.I 1070 5) + 1)))) else ((iget 20 s 1071 x3).bind fun v9 => if v9 = x1 then (some s) else (K2 x1 x2 (x3 + 1) s))
set_option maxRecDepth 100000 in
set_option maxHeartbeats 4000000 in
theorem xb_X7_addFile_2 {l : Launch} {D : va_G} {A : Nat → ClassId} {B : Nat} {Z : State → Heap → Prop} {vF : Value} (uk : uK B Z vF) {K2 : Int32 → Int32 → Int32 → uS → Option uS} (hK2 : ∀ (x1 : Int32) (x2 : Int32) (x3 : Int32)  (s : uS) (r : uS), K2 x1 x2 x3 s = some r → GU l D A B Z mX7_addFile 0 (r, none) s 2 [(0, .ref (B + 1070)), (1, .int x1), (2, .int x2), (3, .int x3)] []) {x1 : Int32} {x2 : Int32} {x3 : Int32} {s : uS} {r : uS}  (h : fb_X7_addFile_2 K2 x1 x2 x3 s = some r) : GU l D A B Z mX7_addFile 0 (r, none) s 2 [(0, .ref (B + 1070)), (1, .int x1), (2, .int x2), (3, .int x3)] [] := by
  unfold fb_X7_addFile_2 at h
  refine uu_iload_n dX7_addFile_2 rfl (List.mem_of_getElem? (i := 3) rfl) ?_
  refine uu_aload_n dX7_addFile_3 rfl (List.mem_of_getElem? (i := 0) rfl) ?_
  refine uu_geti (ci := 7) (N := 20) fX7_59 (by decide) so_1070.is (by decide) (by decide) dX7_addFile_4 ?_
  refine uu_icmp_ge (tgt := 27) dX7_addFile_7 (by decide) (fun c1 => ?_) (fun c1 => ?_)
  · replace h := uu_pos c1 h
    refine uu_aload_n dX7_addFile_27 rfl (List.mem_of_getElem? (i := 0) rfl) ?_
    refine uu_geti (ci := 7) (N := 20) fX7_59 (by decide) so_1070.is (by decide) (by decide) dX7_addFile_28 ?_
    refine uu_aload_n dX7_addFile_31 rfl (List.mem_of_getElem? (i := 0) rfl) ?_
    refine uu_geta (ci := 7) (N := 20) fX7_9 (by decide) so_1070.is (by decide) (c := 1071) (by decide) dX7_addFile_32 ?_
    obtain ⟨v2, e3, h⟩ := uu_ob h
    refine uu_alen e3 dX7_addFile_35 ?_
    refine uu_icmp_ge (tgt := 69) dX7_addFile_36 (by decide) (fun c4 => ?_) (fun c4 => ?_)
    · replace h := uu_pos c4 h
      have hr := Option.some.inj h
      subst hr
      exact uu_vret rfl dX7_addFile_69
    · replace h := uu_neg c4 h
      refine uu_aload_n dX7_addFile_39 rfl (List.mem_of_getElem? (i := 0) rfl) ?_
      refine uu_geta (ci := 7) (N := 20) fX7_9 (by decide) so_1070.is (by decide) (c := 1071) (by decide) dX7_addFile_40 ?_
      refine uu_aload_n dX7_addFile_43 rfl (List.mem_of_getElem? (i := 0) rfl) ?_
      refine uu_geti (ci := 7) (N := 20) fX7_59 (by decide) so_1070.is (by decide) (by decide) dX7_addFile_44 ?_
      refine uu_iload_n dX7_addFile_47 rfl (List.mem_of_getElem? (i := 1) rfl) ?_
      obtain ⟨s5, e6, h⟩ := uu_ob h
      refine uu_iast e6 dX7_addFile_48 ?_
      refine uu_aload_n dX7_addFile_49 rfl (List.mem_of_getElem? (i := 0) rfl) ?_
      refine uu_geta (ci := 7) (N := 20) fX7_15 (by decide) so_1070.is (by decide) (c := 1072) (by decide) dX7_addFile_50 ?_
      refine uu_aload_n dX7_addFile_53 rfl (List.mem_of_getElem? (i := 0) rfl) ?_
      refine uu_geti (ci := 7) (N := 20) fX7_59 (by decide) so_1070.is (by decide) (by decide) dX7_addFile_54 ?_
      refine uu_iload_n dX7_addFile_57 rfl (List.mem_of_getElem? (i := 2) rfl) ?_
      obtain ⟨s7, e8, h⟩ := uu_ob h
      refine uu_iast e8 dX7_addFile_58 ?_
      refine uu_aload_n dX7_addFile_59 rfl (List.mem_of_getElem? (i := 0) rfl) ?_
      refine uu_dup dX7_addFile_60 rfl ?_
      refine uu_geti (ci := 7) (N := 20) fX7_59 (by decide) so_1070.is (by decide) (by decide) dX7_addFile_61 ?_
      refine uu_iconst (v := 1) dX7_addFile_64 (by decide) ?_
      refine uu_iadd dX7_addFile_65 ?_
      refine uu_puti (ft := .int) (ci := 7) (N := 20) fX7_59 ptX7 (Or.inl rfl) (by decide) so_1070.is (by decide) (by decide) (by decide +kernel) rfl rfl dX7_addFile_66 ?_
      have hr := Option.some.inj h
      subst hr
      exact uu_vret rfl dX7_addFile_69
  · replace h := uu_neg c1 h
    refine uu_aload_n dX7_addFile_10 rfl (List.mem_of_getElem? (i := 0) rfl) ?_
    refine uu_geta (ci := 7) (N := 20) fX7_9 (by decide) so_1070.is (by decide) (c := 1071) (by decide) dX7_addFile_11 ?_
    refine uu_iload_n dX7_addFile_14 rfl (List.mem_of_getElem? (i := 3) rfl) ?_
    obtain ⟨v9, e10, h⟩ := uu_ob h
    refine uu_iald e10 dX7_addFile_15 ?_
    refine uu_iload_n dX7_addFile_16 rfl (List.mem_of_getElem? (i := 1) rfl) ?_
    refine uu_icmp_ne (tgt := 21) dX7_addFile_17 (by decide) (fun c11 => ?_) (fun c11 => ?_)
    · replace h := uu_neg c11 h
      refine uu_iinc (v := x3 + 1) dX7_addFile_21 (k := 3) rfl rfl (by decide) rfl ?_
      refine uu_goto (tgt := 2) dX7_addFile_24 (by decide) ?_
      refine uu_lv [1, 2, 3, 0] (lv' := [(0, .ref (B + 1070)), (1, .int x1), (2, .int x2), (3, .int (x3 + 1))]) rfl ?_
      exact hK2 x1 x2 (x3 + 1) _ _ h
    · replace h := uu_pos c11 h
      have hr := Option.some.inj h
      subst hr
      exact uu_vret rfl dX7_addFile_20
def fn_X7_addFile_2  : Nat → Int32 → Int32 → Int32 → uS → Option uS
  | 0 => fun _ _ _ _ => none
  | n + 1 => fb_X7_addFile_2 (fn_X7_addFile_2  n)
set_option maxRecDepth 100000 in
set_option maxHeartbeats 4000000 in
theorem xn_X7_addFile_2 {l : Launch} {D : va_G} {A : Nat → ClassId} {B : Nat} {Z : State → Heap → Prop} {vF : Value} (uk : uK B Z vF)   : ∀ (n : Nat) (x1 : Int32) (x2 : Int32) (x3 : Int32)  (s : uS) (r : uS), fn_X7_addFile_2  n x1 x2 x3 s = some r → GU l D A B Z mX7_addFile 0 (r, none) s 2 [(0, .ref (B + 1070)), (1, .int x1), (2, .int x2), (3, .int x3)] [] := by
  intro n
  induction n with
  | zero => intro x1 x2 x3 s r h
            cases h
  | succ n ih => intro x1 x2 x3 s r h
                 exact xb_X7_addFile_2 uk ih  h
def fn_X7_addFile (x1 : Int32) (x2 : Int32) (s : uS) : Option uS := fn_X7_addFile_2 uFu x1 x2 0 s
set_option maxRecDepth 100000 in
set_option maxHeartbeats 4000000 in
theorem xc_X7_addFile {l : Launch} {D : va_G} {A : Nat → ClassId} {B : Nat} {Z : State → Heap → Prop} {vF : Value} (uk : uK B Z vF) {x1 : Int32} {x2 : Int32} {s : uS} {r : uS}  (h : fn_X7_addFile x1 x2 s = some r) : CU l D A B Z 0 mX7_addFile s [.ref (B + 1070), .int x1, .int x2] (r, none) := by
  unfold fn_X7_addFile at h
  refine cu_of rfl uk.1.1 (Nat.le_of_ble_eq_true rfl) ?_
  show GU _ _ _ _ _ _ _ _ _ 0 [(0, .ref (B + 1070)), (1, .int x1), (2, .int x2)] []
  refine uu_iconst (v := 0) dX7_addFile_0 (by decide) ?_
  refine uu_istore_n dX7_addFile_1 rfl (by decide) rfl ?_
  refine uu_lv [1, 2, 3, 0] (lv' := [(0, .ref (B + 1070)), (1, .int x1), (2, .int x2), (3, .int 0)]) rfl ?_
  exact xn_X7_addFile_2 uk  _ _ _ _ _ _ h
abbrev mX7_file : hM := (yX7_file, cX7_file, 3, none)
theorem kX7_addFile : h_ml mX7_addFile 2 := ⟨h_t6 28 rfl rfl, h_t1 15 rfl rfl, ⟨by decide, by decide, by decide +kernel⟩, by decide⟩
theorem lX7_175 : Cond.methodLink RX7 175 mX7_addFile.1 ∈ lw_g := h_t6 25 rfl rfl
theorem sX7_addFile : Cond.instanceMethod mX7_addFile.1 ∈ lw_g ∧ Cond.selects mX7_addFile.1.cls mX7_addFile.1 mX7_addFile.1 ∈ lw_g := ⟨h_t6 27 rfl rfl, h_ins 61 rfl⟩
theorem dX7_file_34 : decode cX7_file 34 = .ok (.invokevirtual 175, 3) := by decide +kernel
theorem dX7_file_37 : decode cX7_file 37 = .ok (.return_, 1) := by decide +kernel
theorem dX7_file_0 : decode cX7_file 0 = .ok (.iload_n 1, 1) := by decide +kernel
theorem dX7_file_1 : decode cX7_file 1 = .ok (.ifCond .lt 36, 3) := by decide +kernel
theorem dX7_file_4 : decode cX7_file 4 = .ok (.aload_n 0, 1) := by decide +kernel
theorem dX7_file_5 : decode cX7_file 5 = .ok (.aload_n 2, 1) := by decide +kernel
theorem kX7_act : h_ml mX7_act 1 := ⟨h_t6 19 rfl rfl, h_t1 15 rfl rfl, ⟨by decide, by decide, by decide +kernel⟩, by decide⟩
theorem lX7_172 : Cond.methodLink RX7 172 mX7_act.1 ∈ lw_g := h_t6 16 rfl rfl
theorem sX7_act : Cond.instanceMethod mX7_act.1 ∈ lw_g ∧ Cond.selects mX7_act.1.cls mX7_act.1 mX7_act.1 ∈ lw_g := ⟨h_t6 18 rfl rfl, h_ins 59 rfl⟩
theorem dX7_file_6 : decode cX7_file 6 = .ok (.invokevirtual 172, 3) := by decide +kernel
theorem dX7_file_9 : decode cX7_file 9 = .ok (.ifCond .eq 28, 3) := by decide +kernel
theorem dX7_file_12 : decode cX7_file 12 = .ok (.aload_n 0, 1) := by decide +kernel
theorem dX7_file_13 : decode cX7_file 13 = .ok (.iload_n 1, 1) := by decide +kernel
theorem dX7_file_14 : decode cX7_file 14 = .ok (.aload_n 2, 1) := by decide +kernel
theorem dX7_file_15 : decode cX7_file 15 = .ok (.bipush 8, 2) := by decide +kernel
theorem dX7_file_17 : decode cX7_file 17 = .ok (.invokevirtual 168, 3) := by decide +kernel
theorem dX7_file_20 : decode cX7_file 20 = .ok (.ifCond .eq 10, 3) := by decide +kernel
theorem dX7_file_30 : decode cX7_file 30 = .ok (.aload_n 0, 1) := by decide +kernel
theorem dX7_file_31 : decode cX7_file 31 = .ok (.getfield 84, 3) := by decide +kernel
theorem dX7_file_23 : decode cX7_file 23 = .ok (.aload_n 2, 1) := by decide +kernel
theorem fX7_164 : h_fl RX7 164 3 11 RX3 TX3 15 := ⟨rfl, by decide, inX3, h_t1 180 rfl rfl⟩
theorem dX7_file_24 : decode cX7_file 24 = .ok (.getfield 164, 3) := by decide +kernel
theorem dX7_file_27 : decode cX7_file 27 = .ok (.goto 7, 3) := by decide +kernel
def fb_X7_file_34  (xs0 : Int32) (xs1 : Int32) (s : uS) : Option uS := (fn_X7_addFile xs1 xs0 s).bind fun s1 => some s1
set_option maxRecDepth 100000 in
set_option maxHeartbeats 4000000 in
theorem xb_X7_file_34 {l : Launch} {D : va_G} {A : Nat → ClassId} {B : Nat} {Z : State → Heap → Prop} {vF : Value} (uk : uK B Z vF)   {xs0 : Int32} {xs1 : Int32} {s : uS} {r : uS}  (h : fb_X7_file_34  xs0 xs1 s = some r) : GU l D A B Z mX7_file 2 (r, none) s 34 [] [.int xs0, .int xs1, .ref (B + 1070)] := by
  unfold fb_X7_file_34 at h
  obtain ⟨s1, e2, h⟩ := uu_ob h
  refine uu_cv (d1 := 0) (k := 1070) (ci := 7) (T := TX7) (N := 20) (As := [.int xs1, .int xs0]) (st := []) (st' := []) (xc_X7_addFile uk  e2) so_1070.is (by decide) rfl kX7_addFile lX7_175 sX7_addFile (by decide) (Nat.le_of_ble_eq_true rfl) dX7_file_34 rfl ?_
  have hr := Option.some.inj h
  subst hr
  exact uu_vret rfl dX7_file_37
def fn_X7_file (x1 : Int32) (k2 : Nat) (s : uS) : Option uS := if x1 < 0 then (some s) else ((fn_X7_act k2 s).bind fun r2 => if r2.2 = true then ((fn_X3_has k2 8 r2.1).bind fun v5 => if v5 = true then (fb_X7_file_34 (r2.1.I k2 11) x1 r2.1) else (fb_X7_file_34 (r2.1.I 1070 13) x1 r2.1)) else (some r2.1))
set_option maxRecDepth 100000 in
set_option maxHeartbeats 4000000 in
theorem xc_X7_file {l : Launch} {D : va_G} {A : Nat → ClassId} {B : Nat} {Z : State → Heap → Prop} {vF : Value} (uk : uK B Z vF) {x1 : Int32} {k2 : Nat} {s : uS} {r : uS} (hk2 : uSo k2 3) (h : fn_X7_file x1 k2 s = some r) : CU l D A B Z 2 mX7_file s [.ref (B + 1070), .int x1, .ref (B + k2)] (r, none) := by
  unfold fn_X7_file at h
  refine cu_of rfl uk.1.1 (Nat.le_of_ble_eq_true rfl) ?_
  show GU _ _ _ _ _ _ _ _ _ 0 [(0, .ref (B + 1070)), (1, .int x1), (2, .ref (B + k2))] []
  refine uu_iload_n dX7_file_0 rfl (List.mem_of_getElem? (i := 1) rfl) ?_
  refine uu_if_lt (tgt := 37) dX7_file_1 (by decide) (fun c1 => ?_) (fun c1 => ?_)
  · replace h := uu_pos c1 h
    have hr := Option.some.inj h
    subst hr
    exact uu_vret rfl dX7_file_37
  · replace h := uu_neg c1 h
    refine uu_aload_n dX7_file_4 rfl (List.mem_of_getElem? (i := 0) rfl) ?_
    refine uu_aload_n dX7_file_5 rfl (List.mem_of_getElem? (i := 2) rfl) ?_
    obtain ⟨r2, e3, h⟩ := uu_ob h
    refine uu_cv (d1 := 1) (k := 1070) (ci := 7) (T := TX7) (N := 20) (As := [.ref (B + k2)]) (st := []) (st' := [.int (bI r2.2)]) (xc_X7_act uk hk2 e3) so_1070.is (by decide) rfl kX7_act lX7_172 sX7_act (by decide) (Nat.le_of_ble_eq_true rfl) dX7_file_6 rfl ?_
    refine uu_ifb_eq (tgt := 37) dX7_file_9 (by decide) (fun c4 => ?_) (fun c4 => ?_)
    · replace h := uu_neg c4 h
      have hr := Option.some.inj h
      subst hr
      exact uu_vret rfl dX7_file_37
    · replace h := uu_pos c4 h
      refine uu_aload_n dX7_file_12 rfl (List.mem_of_getElem? (i := 0) rfl) ?_
      refine uu_iload_n dX7_file_13 rfl (List.mem_of_getElem? (i := 1) rfl) ?_
      refine uu_aload_n dX7_file_14 rfl (List.mem_of_getElem? (i := 2) rfl) ?_
      refine uu_bipush (v := 8) dX7_file_15 (by decide) ?_
      obtain ⟨v5, e6, h⟩ := uu_ob h
      refine uu_cv (d1 := 0) (k := k2) (ci := 3) (T := TX3) (N := 15) (As := [.int 8]) (st := [.int x1, .ref (B + 1070)]) (st' := [.int (bI v5), .int x1, .ref (B + 1070)]) (xc_X3_has uk hk2 e6) hk2.is (by decide) rfl kX3_has lX7_168 sX3_has (by decide) (Nat.le_of_ble_eq_true rfl) dX7_file_17 rfl ?_
      refine uu_ifb_eq (tgt := 30) dX7_file_20 (by decide) (fun c7 => ?_) (fun c7 => ?_)
      · replace h := uu_neg c7 h
        refine uu_aload_n dX7_file_30 rfl (List.mem_of_getElem? (i := 0) rfl) ?_
        refine uu_geti (ci := 7) (N := 20) fX7_84 (by decide) so_1070.is (by decide) (by decide) dX7_file_31 ?_
        refine uu_lv [] (lv' := []) rfl ?_
        exact xb_X7_file_34 uk  h
      · replace h := uu_pos c7 h
        refine uu_aload_n dX7_file_23 rfl (List.mem_of_getElem? (i := 2) rfl) ?_
        refine uu_geti (ci := 3) (N := 15) fX7_164 (by decide) hk2.is (by decide) (by decide) dX7_file_24 ?_
        refine uu_goto (tgt := 34) dX7_file_27 (by decide) ?_
        refine uu_lv [] (lv' := []) rfl ?_
        exact xb_X7_file_34 uk  h
