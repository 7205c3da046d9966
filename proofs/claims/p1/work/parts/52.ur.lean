abbrev mX12_matchesKey : hM := (yX12_matchesKey, cX12_matchesKey, 5, (some (.boolean)))
theorem dX12_matchesKey_201 : decode cX12_matchesKey 201 = .ok (.aload_n 0, 1) := by decide +kernel
theorem dX12_matchesKey_202 : decode cX12_matchesKey 202 = .ok (.getfield 313, 3) := by decide +kernel
theorem dX12_matchesKey_205 : decode cX12_matchesKey 205 = .ok (.iload_n 1, 1) := by decide +kernel
theorem dX12_matchesKey_206 : decode cX12_matchesKey 206 = .ok (.iaload, 1) := by decide +kernel
theorem kX12_related : h_ml mX12_related 2 := ⟨h_t9 151 rfl rfl, h_t1 16 rfl rfl, ⟨by decide, by decide, by decide +kernel⟩, by decide⟩
theorem lX12_640 : Cond.methodLink RX12 640 mX12_related.1 ∈ lw_g := h_t9 149 rfl rfl
theorem sX12_related : Cond.static mX12_related.1 ∈ lw_g := h_t9 150 rfl rfl
theorem dX12_matchesKey_207 : decode cX12_matchesKey 207 = .ok (.invokestatic 640, 3) := by decide +kernel
theorem dX12_matchesKey_210 : decode cX12_matchesKey 210 = .ok (.ireturn, 1) := by decide +kernel
theorem dX12_matchesKey_76 : decode cX12_matchesKey 76 = .ok (.istore 4, 2) := by decide +kernel
theorem dX12_matchesKey_78 : decode cX12_matchesKey 78 = .ok (.aload_n 0, 1) := by decide +kernel
theorem dX12_matchesKey_79 : decode cX12_matchesKey 79 = .ok (.getfield 310, 3) := by decide +kernel
theorem dX12_matchesKey_82 : decode cX12_matchesKey 82 = .ok (.iload_n 1, 1) := by decide +kernel
theorem dX12_matchesKey_83 : decode cX12_matchesKey 83 = .ok (.iaload, 1) := by decide +kernel
theorem dX12_matchesKey_84 : decode cX12_matchesKey 84 = .ok (.tableswitch 100 0 2 #[28, 62, 81], 28) := by decide +kernel
theorem dX12_matchesKey_112 : decode cX12_matchesKey 112 = .ok (.iload 4, 2) := by decide +kernel
theorem dX12_matchesKey_114 : decode cX12_matchesKey 114 = .ok (.ifCond .eq 18, 3) := by decide +kernel
theorem dX12_matchesKey_132 : decode cX12_matchesKey 132 = .ok (.aload_n 0, 1) := by decide +kernel
theorem dX12_matchesKey_133 : decode cX12_matchesKey 133 = .ok (.iload_n 3, 1) := by decide +kernel
theorem kX12_bytewise : h_ml mX12_bytewise 1 := ⟨h_t9 126 rfl rfl, h_t1 16 rfl rfl, ⟨by decide, by decide, by decide +kernel⟩, by decide⟩
theorem lX12_630 : Cond.methodLink RX12 630 mX12_bytewise.1 ∈ lw_g := h_t9 123 rfl rfl
theorem sX12_bytewise : Cond.instanceMethod mX12_bytewise.1 ∈ lw_g ∧ Cond.selects mX12_bytewise.1.cls mX12_bytewise.1 mX12_bytewise.1 ∈ lw_g := ⟨h_t9 125 rfl rfl, h_ins 175 rfl⟩
theorem dX12_matchesKey_134 : decode cX12_matchesKey 134 = .ok (.invokevirtual 630, 3) := by decide +kernel
theorem dX12_matchesKey_137 : decode cX12_matchesKey 137 = .ok (.ifCond .ne 7, 3) := by decide +kernel
theorem dX12_matchesKey_144 : decode cX12_matchesKey 144 = .ok (.iconst 0, 1) := by decide +kernel
theorem dX12_matchesKey_145 : decode cX12_matchesKey 145 = .ok (.ireturn, 1) := by decide +kernel
theorem dX12_matchesKey_140 : decode cX12_matchesKey 140 = .ok (.iconst 1, 1) := by decide +kernel
theorem dX12_matchesKey_141 : decode cX12_matchesKey 141 = .ok (.goto 4, 3) := by decide +kernel
theorem dX12_matchesKey_117 : decode cX12_matchesKey 117 = .ok (.aload_n 0, 1) := by decide +kernel
theorem kX12_numeric : h_ml mX12_numeric 0 := ⟨h_t9 118 rfl rfl, h_t1 16 rfl rfl, ⟨by decide, by decide, by decide +kernel⟩, by decide⟩
theorem lX12_627 : Cond.methodLink RX12 627 mX12_numeric.1 ∈ lw_g := h_t9 115 rfl rfl
theorem sX12_numeric : Cond.instanceMethod mX12_numeric.1 ∈ lw_g ∧ Cond.selects mX12_numeric.1.cls mX12_numeric.1 mX12_numeric.1 ∈ lw_g := ⟨h_t9 117 rfl rfl, h_ins 173 rfl⟩
theorem dX12_matchesKey_118 : decode cX12_matchesKey 118 = .ok (.invokevirtual 627, 3) := by decide +kernel
theorem dX12_matchesKey_121 : decode cX12_matchesKey 121 = .ok (.ifCond .ne 7, 3) := by decide +kernel
theorem dX12_matchesKey_128 : decode cX12_matchesKey 128 = .ok (.iconst 0, 1) := by decide +kernel
theorem dX12_matchesKey_129 : decode cX12_matchesKey 129 = .ok (.goto 16, 3) := by decide +kernel
theorem dX12_matchesKey_124 : decode cX12_matchesKey 124 = .ok (.iconst 1, 1) := by decide +kernel
theorem dX12_matchesKey_125 : decode cX12_matchesKey 125 = .ok (.goto 20, 3) := by decide +kernel
theorem dX12_matchesKey_146 : decode cX12_matchesKey 146 = .ok (.iload 4, 2) := by decide +kernel
theorem dX12_matchesKey_148 : decode cX12_matchesKey 148 = .ok (.ifCond .ne 15, 3) := by decide +kernel
theorem dX12_matchesKey_163 : decode cX12_matchesKey 163 = .ok (.iconst 0, 1) := by decide +kernel
theorem dX12_matchesKey_164 : decode cX12_matchesKey 164 = .ok (.ireturn, 1) := by decide +kernel
theorem dX12_matchesKey_151 : decode cX12_matchesKey 151 = .ok (.aload_n 0, 1) := by decide +kernel
theorem dX12_matchesKey_152 : decode cX12_matchesKey 152 = .ok (.iload_n 3, 1) := by decide +kernel
theorem kX12_contains : h_ml mX12_contains 1 := ⟨h_t9 133 rfl rfl, h_t1 16 rfl rfl, ⟨by decide, by decide, by decide +kernel⟩, by decide⟩
theorem lX12_634 : Cond.methodLink RX12 634 mX12_contains.1 ∈ lw_g := h_t9 130 rfl rfl
theorem sX12_contains : Cond.instanceMethod mX12_contains.1 ∈ lw_g ∧ Cond.selects mX12_contains.1.cls mX12_contains.1 mX12_contains.1 ∈ lw_g := ⟨h_t9 132 rfl rfl, h_ins 176 rfl⟩
theorem dX12_matchesKey_153 : decode cX12_matchesKey 153 = .ok (.invokevirtual 634, 3) := by decide +kernel
theorem dX12_matchesKey_156 : decode cX12_matchesKey 156 = .ok (.ifCond .eq 7, 3) := by decide +kernel
theorem dX12_matchesKey_159 : decode cX12_matchesKey 159 = .ok (.iconst 1, 1) := by decide +kernel
theorem dX12_matchesKey_160 : decode cX12_matchesKey 160 = .ok (.goto 4, 3) := by decide +kernel
theorem dX12_matchesKey_165 : decode cX12_matchesKey 165 = .ok (.iload 4, 2) := by decide +kernel
theorem dX12_matchesKey_167 : decode cX12_matchesKey 167 = .ok (.ifCond .ne 15, 3) := by decide +kernel
theorem dX12_matchesKey_182 : decode cX12_matchesKey 182 = .ok (.iconst 0, 1) := by decide +kernel
theorem dX12_matchesKey_183 : decode cX12_matchesKey 183 = .ok (.ireturn, 1) := by decide +kernel
theorem dX12_matchesKey_170 : decode cX12_matchesKey 170 = .ok (.aload_n 0, 1) := by decide +kernel
theorem dX12_matchesKey_171 : decode cX12_matchesKey 171 = .ok (.iload_n 3, 1) := by decide +kernel
theorem kX12_pattern : h_ml mX12_pattern 1 := ⟨h_t9 140 rfl rfl, h_t1 16 rfl rfl, ⟨by decide, by decide, by decide +kernel⟩, by decide⟩
theorem lX12_637 : Cond.methodLink RX12 637 mX12_pattern.1 ∈ lw_g := h_t9 137 rfl rfl
theorem sX12_pattern : Cond.instanceMethod mX12_pattern.1 ∈ lw_g ∧ Cond.selects mX12_pattern.1.cls mX12_pattern.1 mX12_pattern.1 ∈ lw_g := ⟨h_t9 139 rfl rfl, h_ins 177 rfl⟩
theorem dX12_matchesKey_172 : decode cX12_matchesKey 172 = .ok (.invokevirtual 637, 3) := by decide +kernel
theorem dX12_matchesKey_175 : decode cX12_matchesKey 175 = .ok (.ifCond .eq 7, 3) := by decide +kernel
theorem dX12_matchesKey_178 : decode cX12_matchesKey 178 = .ok (.iconst 1, 1) := by decide +kernel
theorem dX12_matchesKey_179 : decode cX12_matchesKey 179 = .ok (.goto 4, 3) := by decide +kernel
theorem dX12_matchesKey_184 : decode cX12_matchesKey 184 = .ok (.iload 4, 2) := by decide +kernel
theorem dX12_matchesKey_186 : decode cX12_matchesKey 186 = .ok (.ifCond .eq 10, 3) := by decide +kernel
theorem dX12_matchesKey_196 : decode cX12_matchesKey 196 = .ok (.aload_n 0, 1) := by decide +kernel
theorem dX12_matchesKey_197 : decode cX12_matchesKey 197 = .ok (.iload_n 3, 1) := by decide +kernel
theorem dX12_matchesKey_198 : decode cX12_matchesKey 198 = .ok (.invokevirtual 630, 3) := by decide +kernel
theorem dX12_matchesKey_189 : decode cX12_matchesKey 189 = .ok (.aload_n 0, 1) := by decide +kernel
theorem dX12_matchesKey_190 : decode cX12_matchesKey 190 = .ok (.invokevirtual 627, 3) := by decide +kernel
theorem dX12_matchesKey_193 : decode cX12_matchesKey 193 = .ok (.goto 8, 3) := by decide +kernel
theorem dX12_matchesKey_60 : decode cX12_matchesKey 60 = .ok (.istore_n 3, 1) := by decide +kernel
theorem dX12_matchesKey_61 : decode cX12_matchesKey 61 = .ok (.aload_n 0, 1) := by decide +kernel
theorem dX12_matchesKey_62 : decode cX12_matchesKey 62 = .ok (.getfield 316, 3) := by decide +kernel
theorem dX12_matchesKey_65 : decode cX12_matchesKey 65 = .ok (.iload_n 1, 1) := by decide +kernel
theorem dX12_matchesKey_66 : decode cX12_matchesKey 66 = .ok (.iaload, 1) := by decide +kernel
theorem dX12_matchesKey_67 : decode cX12_matchesKey 67 = .ok (.iconst 2, 1) := by decide +kernel
theorem dX12_matchesKey_68 : decode cX12_matchesKey 68 = .ok (.if_icmp .ne 7, 3) := by decide +kernel
theorem dX12_matchesKey_75 : decode cX12_matchesKey 75 = .ok (.iconst 0, 1) := by decide +kernel
theorem dX12_matchesKey_71 : decode cX12_matchesKey 71 = .ok (.iconst 1, 1) := by decide +kernel
theorem dX12_matchesKey_72 : decode cX12_matchesKey 72 = .ok (.goto 4, 3) := by decide +kernel
theorem dX12_matchesKey_12 : decode cX12_matchesKey 12 = .ok (.iload_n 3, 1) := by decide +kernel
theorem dX12_matchesKey_13 : decode cX12_matchesKey 13 = .ok (.aload_n 0, 1) := by decide +kernel
theorem dX12_matchesKey_14 : decode cX12_matchesKey 14 = .ok (.getfield 113, 3) := by decide +kernel
theorem dX12_matchesKey_17 : decode cX12_matchesKey 17 = .ok (.if_icmp .ge 28, 3) := by decide +kernel
theorem dX12_matchesKey_45 : decode cX12_matchesKey 45 = .ok (.aload_n 0, 1) := by decide +kernel
theorem dX12_matchesKey_46 : decode cX12_matchesKey 46 = .ok (.getfield 316, 3) := by decide +kernel
theorem dX12_matchesKey_49 : decode cX12_matchesKey 49 = .ok (.iload_n 1, 1) := by decide +kernel
theorem dX12_matchesKey_50 : decode cX12_matchesKey 50 = .ok (.iaload, 1) := by decide +kernel
theorem dX12_matchesKey_51 : decode cX12_matchesKey 51 = .ok (.iconst 1, 1) := by decide +kernel
theorem dX12_matchesKey_52 : decode cX12_matchesKey 52 = .ok (.if_icmp .ne 7, 3) := by decide +kernel
theorem dX12_matchesKey_59 : decode cX12_matchesKey 59 = .ok (.iconst 0, 1) := by decide +kernel
theorem dX12_matchesKey_55 : decode cX12_matchesKey 55 = .ok (.iconst 1, 1) := by decide +kernel
theorem dX12_matchesKey_56 : decode cX12_matchesKey 56 = .ok (.goto 4, 3) := by decide +kernel
theorem dX12_matchesKey_20 : decode cX12_matchesKey 20 = .ok (.aload_n 0, 1) := by decide +kernel
theorem dX12_matchesKey_21 : decode cX12_matchesKey 21 = .ok (.getfield 122, 3) := by decide +kernel
theorem dX12_matchesKey_24 : decode cX12_matchesKey 24 = .ok (.iload_n 3, 1) := by decide +kernel
theorem dX12_matchesKey_25 : decode cX12_matchesKey 25 = .ok (.aload_n 0, 1) := by decide +kernel
theorem dX12_matchesKey_26 : decode cX12_matchesKey 26 = .ok (.getfield 260, 3) := by decide +kernel
theorem dX12_matchesKey_29 : decode cX12_matchesKey 29 = .ok (.aload_n 0, 1) := by decide +kernel
theorem dX12_matchesKey_30 : decode cX12_matchesKey 30 = .ok (.getfield 343, 3) := by decide +kernel
theorem dX12_matchesKey_33 : decode cX12_matchesKey 33 = .ok (.iload_n 2, 1) := by decide +kernel
theorem dX12_matchesKey_34 : decode cX12_matchesKey 34 = .ok (.iaload, 1) := by decide +kernel
theorem dX12_matchesKey_35 : decode cX12_matchesKey 35 = .ok (.iload_n 3, 1) := by decide +kernel
theorem dX12_matchesKey_36 : decode cX12_matchesKey 36 = .ok (.iadd, 1) := by decide +kernel
theorem dX12_matchesKey_37 : decode cX12_matchesKey 37 = .ok (.iaload, 1) := by decide +kernel
theorem dX12_matchesKey_38 : decode cX12_matchesKey 38 = .ok (.iastore, 1) := by decide +kernel
theorem dX12_matchesKey_39 : decode cX12_matchesKey 39 = .ok (.iinc 3 1, 3) := by decide +kernel
theorem dX12_matchesKey_42 : decode cX12_matchesKey 42 = .ok (.goto (-30), 3) := by decide +kernel
theorem dX12_matchesKey_0 : decode cX12_matchesKey 0 = .ok (.aload_n 0, 1) := by decide +kernel
theorem dX12_matchesKey_1 : decode cX12_matchesKey 1 = .ok (.aload_n 0, 1) := by decide +kernel
theorem dX12_matchesKey_2 : decode cX12_matchesKey 2 = .ok (.getfield 346, 3) := by decide +kernel
theorem dX12_matchesKey_5 : decode cX12_matchesKey 5 = .ok (.iload_n 2, 1) := by decide +kernel
theorem dX12_matchesKey_6 : decode cX12_matchesKey 6 = .ok (.iaload, 1) := by decide +kernel
theorem dX12_matchesKey_7 : decode cX12_matchesKey 7 = .ok (.putfield 113, 3) := by decide +kernel
theorem dX12_matchesKey_10 : decode cX12_matchesKey 10 = .ok (.iconst 0, 1) := by decide +kernel
theorem dX12_matchesKey_11 : decode cX12_matchesKey 11 = .ok (.istore_n 3, 1) := by decide +kernel
def fb_X12_matchesKey_201  (x1 : Int32) (xs0 : Int32) (s : uS) : Option (uS × Bool) := (iget 20 s 1110 x1).bind fun v1 => (fn_X12_related xs0 v1 s).bind fun v3 => some (s, v3)
set_option maxRecDepth 100000 in
set_option maxHeartbeats 4000000 in
theorem xb_X12_matchesKey_201 {l : Launch} {D : va_G} {A : Nat → ClassId} {B : Nat} {Z : State → Heap → Prop} {vF : Value} (uk : uK B Z vF)   {x1 : Int32} {xs0 : Int32} {s : uS} {r : (uS × Bool)}  (h : fb_X12_matchesKey_201  x1 xs0 s = some r) : GU l D A B Z mX12_matchesKey 3 (r.1, some (.int (bI r.2))) s 201 [(0, .ref (B + 1079)), (1, .int x1)] [.int xs0] := by
  unfold fb_X12_matchesKey_201 at h
  refine uu_aload_n dX12_matchesKey_201 rfl (List.mem_of_getElem? (i := 0) rfl) ?_
  refine uu_geta (ci := 12) (N := 153) fX12_313 (by decide) so_1079.is (by decide) (c := 1110) (by decide) dX12_matchesKey_202 ?_
  refine uu_iload_n dX12_matchesKey_205 rfl (List.mem_of_getElem? (i := 1) rfl) ?_
  obtain ⟨v1, e2, h⟩ := uu_ob h
  refine uu_iald e2 dX12_matchesKey_206 ?_
  obtain ⟨v3, e4, h⟩ := uu_ob h
  refine uu_cs (d1 := 0) (As := [.int xs0, .int v1]) (st := []) (st' := [.int (bI v3)]) (xc_X12_related uk  e4) kX12_related lX12_640 sX12_related (by decide) (Nat.le_of_ble_eq_true rfl) dX12_matchesKey_207 rfl ?_
  have hr := Option.some.inj h
  subst hr
  exact uu_zret (x := bI v3) rfl (bI_z _) dX12_matchesKey_210
def fb_X12_matchesKey_76  (x1 : Int32) (b3 : Bool) (bs0 : Bool) (s : uS) : Option (uS × Bool) := (iget 20 s 1109 x1).bind fun v1 => if v1 = 0 then (if bs0 = true then ((fn_X12_numeric s).bind fun v7 => if v7 = 0 then (some (s, true)) else (some (s, false))) else ((fn_X12_bytewise b3 s).bind fun v4 => if v4 = 0 then (some (s, true)) else (some (s, false)))) else (if v1 = 1 then (if bs0 = true then (some (s, false)) else ((fn_X12_contains b3 s).bind fun v11 => if v11 = true then (some (s, true)) else (some (s, false)))) else (if v1 = 2 then (if bs0 = true then (some (s, false)) else ((fn_X12_pattern b3 s).bind fun r15 => if r15.2 = true then (some (r15.1, true)) else (some (r15.1, false)))) else (if bs0 = true then ((fn_X12_numeric s).bind fun v21 => fb_X12_matchesKey_201 x1 v21 s) else ((fn_X12_bytewise b3 s).bind fun v19 => fb_X12_matchesKey_201 x1 v19 s))))
set_option maxRecDepth 100000 in
set_option maxHeartbeats 4000000 in
theorem xb_X12_matchesKey_76 {l : Launch} {D : va_G} {A : Nat → ClassId} {B : Nat} {Z : State → Heap → Prop} {vF : Value} (uk : uK B Z vF)   {x1 : Int32} {b3 : Bool} {bs0 : Bool} {s : uS} {r : (uS × Bool)}  (h : fb_X12_matchesKey_76  x1 b3 bs0 s = some r) : GU l D A B Z mX12_matchesKey 3 (r.1, some (.int (bI r.2))) s 76 [(0, .ref (B + 1079)), (1, .int x1), (3, .int (bI b3))] [.int (bI bs0)] := by
  unfold fb_X12_matchesKey_76 at h
  refine uu_istore dX12_matchesKey_76 (by decide) rfl ?_
  refine uu_aload_n dX12_matchesKey_78 rfl (List.mem_of_getElem? (i := 1) rfl) ?_
  refine uu_geta (ci := 12) (N := 153) fX12_310 (by decide) so_1079.is (by decide) (c := 1109) (by decide) dX12_matchesKey_79 ?_
  refine uu_iload_n dX12_matchesKey_82 rfl (List.mem_of_getElem? (i := 2) rfl) ?_
  obtain ⟨v1, e2, h⟩ := uu_ob h
  refine uu_iald e2 dX12_matchesKey_83 ?_
  by_cases c84_0 : v1 = 0
  · replace h := uu_pos c84_0 h
    refine uu_tabE (tgt := 112) (off := 28) (v := 0) dX12_matchesKey_84 c84_0 (by decide) (by decide) rfl (by decide) ?_
    refine uu_iload dX12_matchesKey_112 (List.mem_of_getElem? (i := 0) rfl) ?_
    refine uu_ifb_eq (tgt := 132) dX12_matchesKey_114 (by decide) (fun c3 => ?_) (fun c3 => ?_)
    · replace h := uu_neg c3 h
      refine uu_aload_n dX12_matchesKey_132 rfl (List.mem_of_getElem? (i := 1) rfl) ?_
      refine uu_iload_n dX12_matchesKey_133 rfl (List.mem_of_getElem? (i := 3) rfl) ?_
      obtain ⟨v4, e5, h⟩ := uu_ob h
      refine uu_cv (d1 := 1) (k := 1079) (ci := 12) (T := TX12) (N := 153) (As := [.int (bI b3)]) (st := []) (st' := [.int v4]) (xc_X12_bytewise uk  e5) so_1079.is (by decide) rfl kX12_bytewise lX12_630 sX12_bytewise (by decide) (Nat.le_of_ble_eq_true rfl) dX12_matchesKey_134 rfl ?_
      refine uu_if_ne (tgt := 144) dX12_matchesKey_137 (by decide) (fun c6 => ?_) (fun c6 => ?_)
      · replace h := uu_neg c6 h
        refine uu_iconst (v := 0) dX12_matchesKey_144 (by decide) ?_
        have hr := Option.some.inj h
        subst hr
        exact uu_zret (x := bI false) rfl (bI_z _) dX12_matchesKey_145
      · replace h := uu_pos c6 h
        refine uu_iconst (v := 1) dX12_matchesKey_140 (by decide) ?_
        refine uu_goto (tgt := 145) dX12_matchesKey_141 (by decide) ?_
        have hr := Option.some.inj h
        subst hr
        exact uu_zret (x := bI true) rfl (bI_z _) dX12_matchesKey_145
    · replace h := uu_pos c3 h
      refine uu_aload_n dX12_matchesKey_117 rfl (List.mem_of_getElem? (i := 1) rfl) ?_
      obtain ⟨v7, e8, h⟩ := uu_ob h
      refine uu_cv (d1 := 2) (k := 1079) (ci := 12) (T := TX12) (N := 153) (As := []) (st := []) (st' := [.int v7]) (xc_X12_numeric uk  e8) so_1079.is (by decide) rfl kX12_numeric lX12_627 sX12_numeric (by decide) (Nat.le_of_ble_eq_true rfl) dX12_matchesKey_118 rfl ?_
      refine uu_if_ne (tgt := 128) dX12_matchesKey_121 (by decide) (fun c9 => ?_) (fun c9 => ?_)
      · replace h := uu_neg c9 h
        refine uu_iconst (v := 0) dX12_matchesKey_128 (by decide) ?_
        refine uu_goto (tgt := 145) dX12_matchesKey_129 (by decide) ?_
        have hr := Option.some.inj h
        subst hr
        exact uu_zret (x := bI false) rfl (bI_z _) dX12_matchesKey_145
      · replace h := uu_pos c9 h
        refine uu_iconst (v := 1) dX12_matchesKey_124 (by decide) ?_
        refine uu_goto (tgt := 145) dX12_matchesKey_125 (by decide) ?_
        have hr := Option.some.inj h
        subst hr
        exact uu_zret (x := bI true) rfl (bI_z _) dX12_matchesKey_145
  replace h := uu_neg c84_0 h
  by_cases c84_1 : v1 = 1
  · replace h := uu_pos c84_1 h
    refine uu_tabE (tgt := 146) (off := 62) (v := 1) dX12_matchesKey_84 c84_1 (by decide) (by decide) rfl (by decide) ?_
    refine uu_iload dX12_matchesKey_146 (List.mem_of_getElem? (i := 0) rfl) ?_
    refine uu_ifb_ne (tgt := 163) dX12_matchesKey_148 (by decide) (fun c10 => ?_) (fun c10 => ?_)
    · replace h := uu_pos c10 h
      refine uu_iconst (v := 0) dX12_matchesKey_163 (by decide) ?_
      have hr := Option.some.inj h
      subst hr
      exact uu_zret (x := bI false) rfl (bI_z _) dX12_matchesKey_164
    · replace h := uu_neg c10 h
      refine uu_aload_n dX12_matchesKey_151 rfl (List.mem_of_getElem? (i := 1) rfl) ?_
      refine uu_iload_n dX12_matchesKey_152 rfl (List.mem_of_getElem? (i := 3) rfl) ?_
      obtain ⟨v11, e12, h⟩ := uu_ob h
      refine uu_cv (d1 := 2) (k := 1079) (ci := 12) (T := TX12) (N := 153) (As := [.int (bI b3)]) (st := []) (st' := [.int (bI v11)]) (xc_X12_contains uk  e12) so_1079.is (by decide) rfl kX12_contains lX12_634 sX12_contains (by decide) (Nat.le_of_ble_eq_true rfl) dX12_matchesKey_153 rfl ?_
      refine uu_ifb_eq (tgt := 163) dX12_matchesKey_156 (by decide) (fun c13 => ?_) (fun c13 => ?_)
      · replace h := uu_neg c13 h
        refine uu_iconst (v := 0) dX12_matchesKey_163 (by decide) ?_
        have hr := Option.some.inj h
        subst hr
        exact uu_zret (x := bI false) rfl (bI_z _) dX12_matchesKey_164
      · replace h := uu_pos c13 h
        refine uu_iconst (v := 1) dX12_matchesKey_159 (by decide) ?_
        refine uu_goto (tgt := 164) dX12_matchesKey_160 (by decide) ?_
        have hr := Option.some.inj h
        subst hr
        exact uu_zret (x := bI true) rfl (bI_z _) dX12_matchesKey_164
  replace h := uu_neg c84_1 h
  by_cases c84_2 : v1 = 2
  · replace h := uu_pos c84_2 h
    refine uu_tabE (tgt := 165) (off := 81) (v := 2) dX12_matchesKey_84 c84_2 (by decide) (by decide) rfl (by decide) ?_
    refine uu_iload dX12_matchesKey_165 (List.mem_of_getElem? (i := 0) rfl) ?_
    refine uu_ifb_ne (tgt := 182) dX12_matchesKey_167 (by decide) (fun c14 => ?_) (fun c14 => ?_)
    · replace h := uu_pos c14 h
      refine uu_iconst (v := 0) dX12_matchesKey_182 (by decide) ?_
      have hr := Option.some.inj h
      subst hr
      exact uu_zret (x := bI false) rfl (bI_z _) dX12_matchesKey_183
    · replace h := uu_neg c14 h
      refine uu_aload_n dX12_matchesKey_170 rfl (List.mem_of_getElem? (i := 1) rfl) ?_
      refine uu_iload_n dX12_matchesKey_171 rfl (List.mem_of_getElem? (i := 3) rfl) ?_
      obtain ⟨r15, e16, h⟩ := uu_ob h
      refine uu_cv (d1 := 2) (k := 1079) (ci := 12) (T := TX12) (N := 153) (As := [.int (bI b3)]) (st := []) (st' := [.int (bI r15.2)]) (xc_X12_pattern uk  e16) so_1079.is (by decide) rfl kX12_pattern lX12_637 sX12_pattern (by decide) (Nat.le_of_ble_eq_true rfl) dX12_matchesKey_172 rfl ?_
      refine uu_ifb_eq (tgt := 182) dX12_matchesKey_175 (by decide) (fun c17 => ?_) (fun c17 => ?_)
      · replace h := uu_neg c17 h
        refine uu_iconst (v := 0) dX12_matchesKey_182 (by decide) ?_
        have hr := Option.some.inj h
        subst hr
        exact uu_zret (x := bI false) rfl (bI_z _) dX12_matchesKey_183
      · replace h := uu_pos c17 h
        refine uu_iconst (v := 1) dX12_matchesKey_178 (by decide) ?_
        refine uu_goto (tgt := 183) dX12_matchesKey_179 (by decide) ?_
        have hr := Option.some.inj h
        subst hr
        exact uu_zret (x := bI true) rfl (bI_z _) dX12_matchesKey_183
  replace h := uu_neg c84_2 h
  have cx84 : (v1).toInt < 0 ∨ 2 < (v1).toInt := by
    refine Decidable.byContradiction fun q => ?_
    rcases (show (v1).toInt = 0 ∨ (v1).toInt = 1 ∨ (v1).toInt = 2 by omega) with q | q | q
    · exact c84_0 (sw_eq q (by decide))
    · exact c84_1 (sw_eq q (by decide))
    · exact c84_2 (sw_eq q (by decide))
  refine uu_tableOut (tgt := 184) dX12_matchesKey_84 cx84 (by decide) ?_
  refine uu_iload dX12_matchesKey_184 (List.mem_of_getElem? (i := 0) rfl) ?_
  refine uu_ifb_eq (tgt := 196) dX12_matchesKey_186 (by decide) (fun c18 => ?_) (fun c18 => ?_)
  · replace h := uu_neg c18 h
    refine uu_aload_n dX12_matchesKey_196 rfl (List.mem_of_getElem? (i := 1) rfl) ?_
    refine uu_iload_n dX12_matchesKey_197 rfl (List.mem_of_getElem? (i := 3) rfl) ?_
    obtain ⟨v19, e20, h⟩ := uu_ob h
    refine uu_cv (d1 := 1) (k := 1079) (ci := 12) (T := TX12) (N := 153) (As := [.int (bI b3)]) (st := []) (st' := [.int v19]) (xc_X12_bytewise uk  e20) so_1079.is (by decide) rfl kX12_bytewise lX12_630 sX12_bytewise (by decide) (Nat.le_of_ble_eq_true rfl) dX12_matchesKey_198 rfl ?_
    refine uu_lv [1, 2] (lv' := [(0, .ref (B + 1079)), (1, .int x1)]) rfl ?_
    exact xb_X12_matchesKey_201 uk  h
  · replace h := uu_pos c18 h
    refine uu_aload_n dX12_matchesKey_189 rfl (List.mem_of_getElem? (i := 1) rfl) ?_
    obtain ⟨v21, e22, h⟩ := uu_ob h
    refine uu_cv (d1 := 2) (k := 1079) (ci := 12) (T := TX12) (N := 153) (As := []) (st := []) (st' := [.int v21]) (xc_X12_numeric uk  e22) so_1079.is (by decide) rfl kX12_numeric lX12_627 sX12_numeric (by decide) (Nat.le_of_ble_eq_true rfl) dX12_matchesKey_190 rfl ?_
    refine uu_goto (tgt := 201) dX12_matchesKey_193 (by decide) ?_
    refine uu_lv [1, 2] (lv' := [(0, .ref (B + 1079)), (1, .int x1)]) rfl ?_
    exact xb_X12_matchesKey_201 uk  h
def fb_X12_matchesKey_60  (x1 : Int32) (bs0 : Bool) (s : uS) : Option (uS × Bool) := (iget 20 s 1111 x1).bind fun v1 => if v1 = 2 then (fb_X12_matchesKey_76 x1 bs0 true s) else (fb_X12_matchesKey_76 x1 bs0 false s)
set_option maxRecDepth 100000 in
set_option maxHeartbeats 4000000 in
theorem xb_X12_matchesKey_60 {l : Launch} {D : va_G} {A : Nat → ClassId} {B : Nat} {Z : State → Heap → Prop} {vF : Value} (uk : uK B Z vF)   {x1 : Int32} {bs0 : Bool} {s : uS} {r : (uS × Bool)}  (h : fb_X12_matchesKey_60  x1 bs0 s = some r) : GU l D A B Z mX12_matchesKey 3 (r.1, some (.int (bI r.2))) s 60 [(0, .ref (B + 1079)), (1, .int x1)] [.int (bI bs0)] := by
  unfold fb_X12_matchesKey_60 at h
  refine uu_istore_n dX12_matchesKey_60 rfl (by decide) rfl ?_
  refine uu_aload_n dX12_matchesKey_61 rfl (List.mem_of_getElem? (i := 1) rfl) ?_
  refine uu_geta (ci := 12) (N := 153) fX12_316 (by decide) so_1079.is (by decide) (c := 1111) (by decide) dX12_matchesKey_62 ?_
  refine uu_iload_n dX12_matchesKey_65 rfl (List.mem_of_getElem? (i := 2) rfl) ?_
  obtain ⟨v1, e2, h⟩ := uu_ob h
  refine uu_iald e2 dX12_matchesKey_66 ?_
  refine uu_iconst (v := 2) dX12_matchesKey_67 (by decide) ?_
  refine uu_icmp_ne (tgt := 75) dX12_matchesKey_68 (by decide) (fun c3 => ?_) (fun c3 => ?_)
  · replace h := uu_neg c3 h
    refine uu_iconst (v := 0) dX12_matchesKey_75 (by decide) ?_
    refine uu_lv [1, 2, 0] (lv' := [(0, .ref (B + 1079)), (1, .int x1), (3, .int (bI bs0))]) rfl ?_
    exact xb_X12_matchesKey_76 uk  h
  · replace h := uu_pos c3 h
    refine uu_iconst (v := 1) dX12_matchesKey_71 (by decide) ?_
    refine uu_goto (tgt := 76) dX12_matchesKey_72 (by decide) ?_
    refine uu_lv [1, 2, 0] (lv' := [(0, .ref (B + 1079)), (1, .int x1), (3, .int (bI bs0))]) rfl ?_
    exact xb_X12_matchesKey_76 uk  h
def fb_X12_matchesKey_12 (K12 : Int32 → Int32 → Int32 → uS → Option (uS × Bool)) (x1 : Int32) (x2 : Int32) (x3 : Int32) (s : uS) : Option (uS × Bool) := if (s.I 1079 23) ≤ x3 then ((iget 20 s 1111 x1).bind fun v2 => if v2 = 1 then (fb_X12_matchesKey_60 x1 true s) else (fb_X12_matchesKey_60 x1 false s)) else ((iget 20 s 1116 x2).bind fun v5 => (iget 20 s 1097 (v5 + x3)).bind fun v7 => (iput 20 s 1094 x3 v7).bind fun s9 => K12 x1 x2 (x3 + 1) s9)
set_option maxRecDepth 100000 in
set_option maxHeartbeats 4000000 in
theorem xb_X12_matchesKey_12 {l : Launch} {D : va_G} {A : Nat → ClassId} {B : Nat} {Z : State → Heap → Prop} {vF : Value} (uk : uK B Z vF) {K12 : Int32 → Int32 → Int32 → uS → Option (uS × Bool)} (hK12 : ∀ (x1 : Int32) (x2 : Int32) (x3 : Int32)  (s : uS) (r : (uS × Bool)), K12 x1 x2 x3 s = some r → GU l D A B Z mX12_matchesKey 3 (r.1, some (.int (bI r.2))) s 12 [(0, .ref (B + 1079)), (1, .int x1), (2, .int x2), (3, .int x3)] []) {x1 : Int32} {x2 : Int32} {x3 : Int32} {s : uS} {r : (uS × Bool)}  (h : fb_X12_matchesKey_12 K12 x1 x2 x3 s = some r) : GU l D A B Z mX12_matchesKey 3 (r.1, some (.int (bI r.2))) s 12 [(0, .ref (B + 1079)), (1, .int x1), (2, .int x2), (3, .int x3)] [] := by
  unfold fb_X12_matchesKey_12 at h
  refine uu_iload_n dX12_matchesKey_12 rfl (List.mem_of_getElem? (i := 3) rfl) ?_
  refine uu_aload_n dX12_matchesKey_13 rfl (List.mem_of_getElem? (i := 0) rfl) ?_
  refine uu_geti (ci := 12) (N := 153) fX12_113 (by decide) so_1079.is (by decide) (by decide) dX12_matchesKey_14 ?_
  refine uu_icmp_ge (tgt := 45) dX12_matchesKey_17 (by decide) (fun c1 => ?_) (fun c1 => ?_)
  · replace h := uu_pos c1 h
    refine uu_aload_n dX12_matchesKey_45 rfl (List.mem_of_getElem? (i := 0) rfl) ?_
    refine uu_geta (ci := 12) (N := 153) fX12_316 (by decide) so_1079.is (by decide) (c := 1111) (by decide) dX12_matchesKey_46 ?_
    refine uu_iload_n dX12_matchesKey_49 rfl (List.mem_of_getElem? (i := 1) rfl) ?_
    obtain ⟨v2, e3, h⟩ := uu_ob h
    refine uu_iald e3 dX12_matchesKey_50 ?_
    refine uu_iconst (v := 1) dX12_matchesKey_51 (by decide) ?_
    refine uu_icmp_ne (tgt := 59) dX12_matchesKey_52 (by decide) (fun c4 => ?_) (fun c4 => ?_)
    · replace h := uu_neg c4 h
      refine uu_iconst (v := 0) dX12_matchesKey_59 (by decide) ?_
      refine uu_lv [0, 1] (lv' := [(0, .ref (B + 1079)), (1, .int x1)]) rfl ?_
      exact xb_X12_matchesKey_60 uk  h
    · replace h := uu_pos c4 h
      refine uu_iconst (v := 1) dX12_matchesKey_55 (by decide) ?_
      refine uu_goto (tgt := 60) dX12_matchesKey_56 (by decide) ?_
      refine uu_lv [0, 1] (lv' := [(0, .ref (B + 1079)), (1, .int x1)]) rfl ?_
      exact xb_X12_matchesKey_60 uk  h
  · replace h := uu_neg c1 h
    refine uu_aload_n dX12_matchesKey_20 rfl (List.mem_of_getElem? (i := 0) rfl) ?_
    refine uu_geta (ci := 12) (N := 153) fX12_122 (by decide) so_1079.is (by decide) (c := 1094) (by decide) dX12_matchesKey_21 ?_
    refine uu_iload_n dX12_matchesKey_24 rfl (List.mem_of_getElem? (i := 3) rfl) ?_
    refine uu_aload_n dX12_matchesKey_25 rfl (List.mem_of_getElem? (i := 0) rfl) ?_
    refine uu_geta (ci := 12) (N := 153) fX12_260 (by decide) so_1079.is (by decide) (c := 1097) (by decide) dX12_matchesKey_26 ?_
    refine uu_aload_n dX12_matchesKey_29 rfl (List.mem_of_getElem? (i := 0) rfl) ?_
    refine uu_geta (ci := 12) (N := 153) fX12_343 (by decide) so_1079.is (by decide) (c := 1116) (by decide) dX12_matchesKey_30 ?_
    refine uu_iload_n dX12_matchesKey_33 rfl (List.mem_of_getElem? (i := 2) rfl) ?_
    obtain ⟨v5, e6, h⟩ := uu_ob h
    refine uu_iald e6 dX12_matchesKey_34 ?_
    refine uu_iload_n dX12_matchesKey_35 rfl (List.mem_of_getElem? (i := 3) rfl) ?_
    refine uu_iadd dX12_matchesKey_36 ?_
    obtain ⟨v7, e8, h⟩ := uu_ob h
    refine uu_iald e8 dX12_matchesKey_37 ?_
    obtain ⟨s9, e10, h⟩ := uu_ob h
    refine uu_iast e10 dX12_matchesKey_38 ?_
    refine uu_iinc (v := x3 + 1) dX12_matchesKey_39 (k := 3) rfl rfl (by decide) rfl ?_
    refine uu_goto (tgt := 12) dX12_matchesKey_42 (by decide) ?_
    refine uu_lv [1, 2, 3, 0] (lv' := [(0, .ref (B + 1079)), (1, .int x1), (2, .int x2), (3, .int (x3 + 1))]) rfl ?_
    exact hK12 x1 x2 (x3 + 1) _ _ h
def fn_X12_matchesKey_12  : Nat → Int32 → Int32 → Int32 → uS → Option (uS × Bool)
  | 0 => fun _ _ _ _ => none
  | n + 1 => fb_X12_matchesKey_12 (fn_X12_matchesKey_12  n)
set_option maxRecDepth 100000 in
set_option maxHeartbeats 4000000 in
theorem xn_X12_matchesKey_12 {l : Launch} {D : va_G} {A : Nat → ClassId} {B : Nat} {Z : State → Heap → Prop} {vF : Value} (uk : uK B Z vF)   : ∀ (n : Nat) (x1 : Int32) (x2 : Int32) (x3 : Int32)  (s : uS) (r : (uS × Bool)), fn_X12_matchesKey_12  n x1 x2 x3 s = some r → GU l D A B Z mX12_matchesKey 3 (r.1, some (.int (bI r.2))) s 12 [(0, .ref (B + 1079)), (1, .int x1), (2, .int x2), (3, .int x3)] [] := by
  intro n
  induction n with
  | zero => intro x1 x2 x3 s r h
            cases h
  | succ n ih => intro x1 x2 x3 s r h
                 exact xb_X12_matchesKey_12 uk ih  h
def fn_X12_matchesKey (x1 : Int32) (x2 : Int32) (s : uS) : Option (uS × Bool) := (iget 20 s 1117 x2).bind fun v1 => fn_X12_matchesKey_12 uFu x1 x2 0 (wI s 1079 23 v1)
set_option maxRecDepth 100000 in
set_option maxHeartbeats 4000000 in
theorem xc_X12_matchesKey {l : Launch} {D : va_G} {A : Nat → ClassId} {B : Nat} {Z : State → Heap → Prop} {vF : Value} (uk : uK B Z vF) {x1 : Int32} {x2 : Int32} {s : uS} {r : (uS × Bool)}  (h : fn_X12_matchesKey x1 x2 s = some r) : CU l D A B Z 3 mX12_matchesKey s [.ref (B + 1079), .int x1, .int x2] (r.1, some (.int (bI r.2))) := by
  unfold fn_X12_matchesKey at h
  refine cu_of rfl uk.1.1 (Nat.le_of_ble_eq_true rfl) ?_
  show GU _ _ _ _ _ _ _ _ _ 0 [(0, .ref (B + 1079)), (1, .int x1), (2, .int x2)] []
  refine uu_aload_n dX12_matchesKey_0 rfl (List.mem_of_getElem? (i := 0) rfl) ?_
  refine uu_aload_n dX12_matchesKey_1 rfl (List.mem_of_getElem? (i := 0) rfl) ?_
  refine uu_geta (ci := 12) (N := 153) fX12_346 (by decide) so_1079.is (by decide) (c := 1117) (by decide) dX12_matchesKey_2 ?_
  refine uu_iload_n dX12_matchesKey_5 rfl (List.mem_of_getElem? (i := 2) rfl) ?_
  obtain ⟨v1, e2, h⟩ := uu_ob h
  refine uu_iald e2 dX12_matchesKey_6 ?_
  refine uu_puti (ft := .int) (ci := 12) (N := 153) fX12_113 ptX12 (Or.inl rfl) (by decide) so_1079.is (by decide) (by decide) (by decide +kernel) rfl rfl dX12_matchesKey_7 ?_
  refine uu_iconst (v := 0) dX12_matchesKey_10 (by decide) ?_
  refine uu_istore_n dX12_matchesKey_11 rfl (by decide) rfl ?_
  refine uu_lv [1, 2, 3, 0] (lv' := [(0, .ref (B + 1079)), (1, .int x1), (2, .int x2), (3, .int 0)]) rfl ?_
  exact xn_X12_matchesKey_12 uk  _ _ _ _ _ _ h
abbrev mX12_value : hM := (yX12_value, cX12_value, 3, none)
theorem dX12_value_12 : decode cX12_value 12 = .ok (.iload_n 2, 1) := by decide +kernel
theorem dX12_value_13 : decode cX12_value 13 = .ok (.aload_n 0, 1) := by decide +kernel
theorem dX12_value_14 : decode cX12_value 14 = .ok (.getfield 300, 3) := by decide +kernel
theorem dX12_value_17 : decode cX12_value 17 = .ok (.iload_n 1, 1) := by decide +kernel
theorem dX12_value_18 : decode cX12_value 18 = .ok (.iaload, 1) := by decide +kernel
theorem dX12_value_19 : decode cX12_value 19 = .ok (.if_icmp .ge 51, 3) := by decide +kernel
theorem dX12_value_70 : decode cX12_value 70 = .ok (.return_, 1) := by decide +kernel
theorem dX12_value_22 : decode cX12_value 22 = .ok (.aload_n 0, 1) := by decide +kernel
theorem dX12_value_23 : decode cX12_value 23 = .ok (.getfield 310, 3) := by decide +kernel
theorem dX12_value_26 : decode cX12_value 26 = .ok (.iload_n 1, 1) := by decide +kernel
theorem dX12_value_27 : decode cX12_value 27 = .ok (.iaload, 1) := by decide +kernel
theorem dX12_value_28 : decode cX12_value 28 = .ok (.iconst 3, 1) := by decide +kernel
theorem dX12_value_29 : decode cX12_value 29 = .ok (.if_icmp .eq 41, 3) := by decide +kernel
theorem dX12_value_32 : decode cX12_value 32 = .ok (.aload_n 0, 1) := by decide +kernel
theorem dX12_value_33 : decode cX12_value 33 = .ok (.aload_n 0, 1) := by decide +kernel
theorem fX12_646 : h_fl RX12 646 12 110 RX12 TX12 153 := ⟨rfl, by decide, inX12, h_t12 71 rfl rfl⟩
theorem dX12_value_34 : decode cX12_value 34 = .ok (.getfield 646, 3) := by decide +kernel
theorem dX12_value_37 : decode cX12_value 37 = .ok (.ifCond .ne 19, 3) := by decide +kernel
theorem dX12_value_56 : decode cX12_value 56 = .ok (.iconst 1, 1) := by decide +kernel
theorem dX12_value_57 : decode cX12_value 57 = .ok (.goto 4, 3) := by decide +kernel
theorem dX12_value_61 : decode cX12_value 61 = .ok (.putfield 646, 3) := by decide +kernel
theorem dX12_value_64 : decode cX12_value 64 = .ok (.iinc 2 1, 3) := by decide +kernel
theorem dX12_value_67 : decode cX12_value 67 = .ok (.goto (-55), 3) := by decide +kernel
theorem dX12_value_40 : decode cX12_value 40 = .ok (.aload_n 0, 1) := by decide +kernel
theorem dX12_value_41 : decode cX12_value 41 = .ok (.iload_n 1, 1) := by decide +kernel
theorem dX12_value_42 : decode cX12_value 42 = .ok (.aload_n 0, 1) := by decide +kernel
theorem dX12_value_43 : decode cX12_value 43 = .ok (.getfield 454, 3) := by decide +kernel
theorem dX12_value_46 : decode cX12_value 46 = .ok (.iload_n 1, 1) := by decide +kernel
theorem dX12_value_47 : decode cX12_value 47 = .ok (.iaload, 1) := by decide +kernel
theorem dX12_value_48 : decode cX12_value 48 = .ok (.iload_n 2, 1) := by decide +kernel
theorem dX12_value_49 : decode cX12_value 49 = .ok (.iadd, 1) := by decide +kernel
theorem kX12_matchesKey : h_ml mX12_matchesKey 2 := ⟨h_t9 114 rfl rfl, h_t1 16 rfl rfl, ⟨by decide, by decide, by decide +kernel⟩, by decide⟩
theorem lX12_649 : Cond.methodLink RX12 649 mX12_matchesKey.1 ∈ lw_g := h_t9 111 rfl rfl
theorem sX12_matchesKey : Cond.instanceMethod mX12_matchesKey.1 ∈ lw_g ∧ Cond.selects mX12_matchesKey.1.cls mX12_matchesKey.1 mX12_matchesKey.1 ∈ lw_g := ⟨h_t9 113 rfl rfl, h_ins 172 rfl⟩
theorem dX12_value_50 : decode cX12_value 50 = .ok (.invokevirtual 649, 3) := by decide +kernel
theorem dX12_value_53 : decode cX12_value 53 = .ok (.ifCond .eq 7, 3) := by decide +kernel
theorem dX12_value_60 : decode cX12_value 60 = .ok (.iconst 0, 1) := by decide +kernel
theorem dX12_value_0 : decode cX12_value 0 = .ok (.aload_n 0, 1) := by decide +kernel
theorem dX12_value_1 : decode cX12_value 1 = .ok (.aload_n 0, 1) := by decide +kernel
theorem fX12_643 : h_fl RX12 643 12 109 RX12 TX12 153 := ⟨rfl, by decide, inX12, h_t12 70 rfl rfl⟩
theorem dX12_value_2 : decode cX12_value 2 = .ok (.getfield 643, 3) := by decide +kernel
theorem dX12_value_5 : decode cX12_value 5 = .ok (.iconst 1, 1) := by decide +kernel
theorem dX12_value_6 : decode cX12_value 6 = .ok (.iadd, 1) := by decide +kernel
theorem dX12_value_7 : decode cX12_value 7 = .ok (.putfield 643, 3) := by decide +kernel
theorem dX12_value_10 : decode cX12_value 10 = .ok (.iconst 0, 1) := by decide +kernel
theorem dX12_value_11 : decode cX12_value 11 = .ok (.istore_n 2, 1) := by decide +kernel
def fb_X12_value_12 (K12 : Int32 → Int32 → uS → Option uS) (x1 : Int32) (x2 : Int32) (s : uS) : Option uS := (iget 20 s 1105 x1).bind fun v1 => if v1 ≤ x2 then (some s) else ((iget 20 s 1109 x1).bind fun v4 => if v4 = 3 then (some s) else (if (s.I 1079 110) = 0 then ((iget 20 s 1104 x1).bind fun v8 => (fn_X12_matchesKey x1 (v8 + x2) s).bind fun r10 => if r10.2 = true then (K12 x1 (x2 + 1) (wI r10.1 1079 110 1)) else (K12 x1 (x2 + 1) (wI r10.1 1079 110 0))) else (K12 x1 (x2 + 1) (wI s 1079 110 1))))
set_option maxRecDepth 100000 in
set_option maxHeartbeats 4000000 in
theorem xb_X12_value_12 {l : Launch} {D : va_G} {A : Nat → ClassId} {B : Nat} {Z : State → Heap → Prop} {vF : Value} (uk : uK B Z vF) {K12 : Int32 → Int32 → uS → Option uS} (hK12 : ∀ (x1 : Int32) (x2 : Int32)  (s : uS) (r : uS), K12 x1 x2 s = some r → GU l D A B Z mX12_value 4 (r, none) s 12 [(0, .ref (B + 1079)), (1, .int x1), (2, .int x2)] []) {x1 : Int32} {x2 : Int32} {s : uS} {r : uS}  (h : fb_X12_value_12 K12 x1 x2 s = some r) : GU l D A B Z mX12_value 4 (r, none) s 12 [(0, .ref (B + 1079)), (1, .int x1), (2, .int x2)] [] := by
  unfold fb_X12_value_12 at h
  refine uu_iload_n dX12_value_12 rfl (List.mem_of_getElem? (i := 2) rfl) ?_
  refine uu_aload_n dX12_value_13 rfl (List.mem_of_getElem? (i := 0) rfl) ?_
  refine uu_geta (ci := 12) (N := 153) fX12_300 (by decide) so_1079.is (by decide) (c := 1105) (by decide) dX12_value_14 ?_
  refine uu_iload_n dX12_value_17 rfl (List.mem_of_getElem? (i := 1) rfl) ?_
  obtain ⟨v1, e2, h⟩ := uu_ob h
  refine uu_iald e2 dX12_value_18 ?_
  refine uu_icmp_ge (tgt := 70) dX12_value_19 (by decide) (fun c3 => ?_) (fun c3 => ?_)
  · replace h := uu_pos c3 h
    have hr := Option.some.inj h
    subst hr
    exact uu_vret rfl dX12_value_70
  · replace h := uu_neg c3 h
    refine uu_aload_n dX12_value_22 rfl (List.mem_of_getElem? (i := 0) rfl) ?_
    refine uu_geta (ci := 12) (N := 153) fX12_310 (by decide) so_1079.is (by decide) (c := 1109) (by decide) dX12_value_23 ?_
    refine uu_iload_n dX12_value_26 rfl (List.mem_of_getElem? (i := 1) rfl) ?_
    obtain ⟨v4, e5, h⟩ := uu_ob h
    refine uu_iald e5 dX12_value_27 ?_
    refine uu_iconst (v := 3) dX12_value_28 (by decide) ?_
    refine uu_icmp_eq (tgt := 70) dX12_value_29 (by decide) (fun c6 => ?_) (fun c6 => ?_)
    · replace h := uu_pos c6 h
      have hr := Option.some.inj h
      subst hr
      exact uu_vret rfl dX12_value_70
    · replace h := uu_neg c6 h
      refine uu_aload_n dX12_value_32 rfl (List.mem_of_getElem? (i := 0) rfl) ?_
      refine uu_aload_n dX12_value_33 rfl (List.mem_of_getElem? (i := 0) rfl) ?_
      refine uu_geti (ci := 12) (N := 153) fX12_646 (by decide) so_1079.is (by decide) (by decide) dX12_value_34 ?_
      refine uu_if_ne (tgt := 56) dX12_value_37 (by decide) (fun c7 => ?_) (fun c7 => ?_)
      · replace h := uu_neg c7 h
        refine uu_iconst (v := 1) dX12_value_56 (by decide) ?_
        refine uu_goto (tgt := 61) dX12_value_57 (by decide) ?_
        refine uu_puti (ft := .boolean) (ci := 12) (N := 153) fX12_646 ptX12 (Or.inl rfl) (by decide) so_1079.is (by decide) (by decide) (by decide +kernel) rfl rfl dX12_value_61 ?_
        refine uu_iinc (v := x2 + 1) dX12_value_64 (k := 2) rfl rfl (by decide) rfl ?_
        refine uu_goto (tgt := 12) dX12_value_67 (by decide) ?_
        refine uu_lv [1, 2, 0] (lv' := [(0, .ref (B + 1079)), (1, .int x1), (2, .int (x2 + 1))]) rfl ?_
        exact hK12 x1 (x2 + 1) _ _ h
      · replace h := uu_pos c7 h
        refine uu_aload_n dX12_value_40 rfl (List.mem_of_getElem? (i := 0) rfl) ?_
        refine uu_iload_n dX12_value_41 rfl (List.mem_of_getElem? (i := 1) rfl) ?_
        refine uu_aload_n dX12_value_42 rfl (List.mem_of_getElem? (i := 0) rfl) ?_
        refine uu_geta (ci := 12) (N := 153) fX12_454 (by decide) so_1079.is (by decide) (c := 1104) (by decide) dX12_value_43 ?_
        refine uu_iload_n dX12_value_46 rfl (List.mem_of_getElem? (i := 1) rfl) ?_
        obtain ⟨v8, e9, h⟩ := uu_ob h
        refine uu_iald e9 dX12_value_47 ?_
        refine uu_iload_n dX12_value_48 rfl (List.mem_of_getElem? (i := 2) rfl) ?_
        refine uu_iadd dX12_value_49 ?_
        obtain ⟨r10, e11, h⟩ := uu_ob h
        refine uu_cv (d1 := 3) (k := 1079) (ci := 12) (T := TX12) (N := 153) (As := [.int x1, .int (v8 + x2)]) (st := [.ref (B + 1079)]) (st' := [.int (bI r10.2), .ref (B + 1079)]) (xc_X12_matchesKey uk  e11) so_1079.is (by decide) rfl kX12_matchesKey lX12_649 sX12_matchesKey (by decide) (Nat.le_of_ble_eq_true rfl) dX12_value_50 rfl ?_
        refine uu_ifb_eq (tgt := 60) dX12_value_53 (by decide) (fun c12 => ?_) (fun c12 => ?_)
        · replace h := uu_neg c12 h
          refine uu_iconst (v := 0) dX12_value_60 (by decide) ?_
          refine uu_puti (ft := .boolean) (ci := 12) (N := 153) fX12_646 ptX12 (Or.inl rfl) (by decide) so_1079.is (by decide) (by decide) (by decide +kernel) rfl rfl dX12_value_61 ?_
          refine uu_iinc (v := x2 + 1) dX12_value_64 (k := 2) rfl rfl (by decide) rfl ?_
          refine uu_goto (tgt := 12) dX12_value_67 (by decide) ?_
          refine uu_lv [1, 2, 0] (lv' := [(0, .ref (B + 1079)), (1, .int x1), (2, .int (x2 + 1))]) rfl ?_
          exact hK12 x1 (x2 + 1) _ _ h
        · replace h := uu_pos c12 h
          refine uu_iconst (v := 1) dX12_value_56 (by decide) ?_
          refine uu_goto (tgt := 61) dX12_value_57 (by decide) ?_
          refine uu_puti (ft := .boolean) (ci := 12) (N := 153) fX12_646 ptX12 (Or.inl rfl) (by decide) so_1079.is (by decide) (by decide) (by decide +kernel) rfl rfl dX12_value_61 ?_
          refine uu_iinc (v := x2 + 1) dX12_value_64 (k := 2) rfl rfl (by decide) rfl ?_
          refine uu_goto (tgt := 12) dX12_value_67 (by decide) ?_
          refine uu_lv [1, 2, 0] (lv' := [(0, .ref (B + 1079)), (1, .int x1), (2, .int (x2 + 1))]) rfl ?_
          exact hK12 x1 (x2 + 1) _ _ h
def fn_X12_value_12  : Nat → Int32 → Int32 → uS → Option uS
  | 0 => fun _ _ _ => none
  | n + 1 => fb_X12_value_12 (fn_X12_value_12  n)
set_option maxRecDepth 100000 in
set_option maxHeartbeats 4000000 in
theorem xn_X12_value_12 {l : Launch} {D : va_G} {A : Nat → ClassId} {B : Nat} {Z : State → Heap → Prop} {vF : Value} (uk : uK B Z vF)   : ∀ (n : Nat) (x1 : Int32) (x2 : Int32)  (s : uS) (r : uS), fn_X12_value_12  n x1 x2 s = some r → GU l D A B Z mX12_value 4 (r, none) s 12 [(0, .ref (B + 1079)), (1, .int x1), (2, .int x2)] [] := by
  intro n
  induction n with
  | zero => intro x1 x2 s r h
            cases h
  | succ n ih => intro x1 x2 s r h
                 exact xb_X12_value_12 uk ih  h
def fn_X12_value (x1 : Int32) (s : uS) : Option uS := fn_X12_value_12 uFu x1 0 (wI s 1079 109 ((s.I 1079 109) + 1))
set_option maxRecDepth 100000 in
set_option maxHeartbeats 4000000 in
theorem xc_X12_value {l : Launch} {D : va_G} {A : Nat → ClassId} {B : Nat} {Z : State → Heap → Prop} {vF : Value} (uk : uK B Z vF) {x1 : Int32} {s : uS} {r : uS}  (h : fn_X12_value x1 s = some r) : CU l D A B Z 4 mX12_value s [.ref (B + 1079), .int x1] (r, none) := by
  unfold fn_X12_value at h
  refine cu_of rfl uk.1.1 (Nat.le_of_ble_eq_true rfl) ?_
  show GU _ _ _ _ _ _ _ _ _ 0 [(0, .ref (B + 1079)), (1, .int x1)] []
  refine uu_aload_n dX12_value_0 rfl (List.mem_of_getElem? (i := 0) rfl) ?_
  refine uu_aload_n dX12_value_1 rfl (List.mem_of_getElem? (i := 0) rfl) ?_
  refine uu_geti (ci := 12) (N := 153) fX12_643 (by decide) so_1079.is (by decide) (by decide) dX12_value_2 ?_
  refine uu_iconst (v := 1) dX12_value_5 (by decide) ?_
  refine uu_iadd dX12_value_6 ?_
  refine uu_puti (ft := .int) (ci := 12) (N := 153) fX12_643 ptX12 (Or.inl rfl) (by decide) so_1079.is (by decide) (by decide) (by decide +kernel) rfl rfl dX12_value_7 ?_
  refine uu_iconst (v := 0) dX12_value_10 (by decide) ?_
  refine uu_istore_n dX12_value_11 rfl (by decide) rfl ?_
  refine uu_lv [1, 2, 0] (lv' := [(0, .ref (B + 1079)), (1, .int x1), (2, .int 0)]) rfl ?_
  exact xn_X12_value_12 uk  _ _ _ _ _ h
abbrev mX12_oneNumber : hM := (yX12_oneNumber, cX12_oneNumber, 3, none)
theorem dX12_oneNumber_23 : decode cX12_oneNumber 23 = .ok (.iload_n 2, 1) := by decide +kernel
theorem dX12_oneNumber_24 : decode cX12_oneNumber 24 = .ok (.ifCond .le 24, 3) := by decide +kernel
theorem dX12_oneNumber_48 : decode cX12_oneNumber 48 = .ok (.return_, 1) := by decide +kernel
theorem dX12_oneNumber_27 : decode cX12_oneNumber 27 = .ok (.aload_n 0, 1) := by decide +kernel
theorem dX12_oneNumber_28 : decode cX12_oneNumber 28 = .ok (.bipush 48, 2) := by decide +kernel
theorem dX12_oneNumber_30 : decode cX12_oneNumber 30 = .ok (.iload_n 1, 1) := by decide +kernel
theorem dX12_oneNumber_31 : decode cX12_oneNumber 31 = .ok (.iload_n 2, 1) := by decide +kernel
theorem dX12_oneNumber_32 : decode cX12_oneNumber 32 = .ok (.idiv, 1) := by decide +kernel
theorem dX12_oneNumber_33 : decode cX12_oneNumber 33 = .ok (.bipush 10, 2) := by decide +kernel
theorem dX12_oneNumber_35 : decode cX12_oneNumber 35 = .ok (.irem, 1) := by decide +kernel
theorem dX12_oneNumber_36 : decode cX12_oneNumber 36 = .ok (.iadd, 1) := by decide +kernel
theorem dX12_oneNumber_37 : decode cX12_oneNumber 37 = .ok (.invokevirtual 178, 3) := by decide +kernel
theorem dX12_oneNumber_40 : decode cX12_oneNumber 40 = .ok (.iload_n 2, 1) := by decide +kernel
theorem dX12_oneNumber_41 : decode cX12_oneNumber 41 = .ok (.bipush 10, 2) := by decide +kernel
theorem dX12_oneNumber_43 : decode cX12_oneNumber 43 = .ok (.idiv, 1) := by decide +kernel
theorem dX12_oneNumber_44 : decode cX12_oneNumber 44 = .ok (.istore_n 2, 1) := by decide +kernel
theorem dX12_oneNumber_45 : decode cX12_oneNumber 45 = .ok (.goto (-22), 3) := by decide +kernel
theorem dX12_oneNumber_2 : decode cX12_oneNumber 2 = .ok (.iload_n 1, 1) := by decide +kernel
theorem dX12_oneNumber_3 : decode cX12_oneNumber 3 = .ok (.iload_n 2, 1) := by decide +kernel
theorem dX12_oneNumber_4 : decode cX12_oneNumber 4 = .ok (.idiv, 1) := by decide +kernel
theorem dX12_oneNumber_5 : decode cX12_oneNumber 5 = .ok (.bipush 10, 2) := by decide +kernel
theorem dX12_oneNumber_7 : decode cX12_oneNumber 7 = .ok (.if_icmp .lt 11, 3) := by decide +kernel
theorem dX12_oneNumber_18 : decode cX12_oneNumber 18 = .ok (.aload_n 0, 1) := by decide +kernel
theorem dX12_oneNumber_19 : decode cX12_oneNumber 19 = .ok (.iconst 0, 1) := by decide +kernel
theorem dX12_oneNumber_20 : decode cX12_oneNumber 20 = .ok (.putfield 110, 3) := by decide +kernel
theorem dX12_oneNumber_10 : decode cX12_oneNumber 10 = .ok (.iload_n 2, 1) := by decide +kernel
theorem dX12_oneNumber_11 : decode cX12_oneNumber 11 = .ok (.bipush 10, 2) := by decide +kernel
theorem dX12_oneNumber_13 : decode cX12_oneNumber 13 = .ok (.imul, 1) := by decide +kernel
theorem dX12_oneNumber_14 : decode cX12_oneNumber 14 = .ok (.istore_n 2, 1) := by decide +kernel
theorem dX12_oneNumber_15 : decode cX12_oneNumber 15 = .ok (.goto (-13), 3) := by decide +kernel
theorem dX12_oneNumber_0 : decode cX12_oneNumber 0 = .ok (.iconst 1, 1) := by decide +kernel
theorem dX12_oneNumber_1 : decode cX12_oneNumber 1 = .ok (.istore_n 2, 1) := by decide +kernel
def fb_X12_oneNumber_23 (K23 : Int32 → Int32 → uS → Option uS) (x1 : Int32) (x2 : Int32) (s : uS) : Option uS := if x2 ≤ 0 then (some s) else (if ¬ x2 = 0 then ((fn_X12_add ((48 : Int32) + ((x1 / x2) - (x1 / x2) / 10 * 10)) s).bind fun s3 => K23 x1 (x2 / 10) s3) else none)
set_option maxRecDepth 100000 in
set_option maxHeartbeats 4000000 in
theorem xb_X12_oneNumber_23 {l : Launch} {D : va_G} {A : Nat → ClassId} {B : Nat} {Z : State → Heap → Prop} {vF : Value} (uk : uK B Z vF) {K23 : Int32 → Int32 → uS → Option uS} (hK23 : ∀ (x1 : Int32) (x2 : Int32)  (s : uS) (r : uS), K23 x1 x2 s = some r → GU l D A B Z mX12_oneNumber 1 (r, none) s 23 [(0, .ref (B + 1079)), (1, .int x1), (2, .int x2)] []) {x1 : Int32} {x2 : Int32} {s : uS} {r : uS}  (h : fb_X12_oneNumber_23 K23 x1 x2 s = some r) : GU l D A B Z mX12_oneNumber 1 (r, none) s 23 [(0, .ref (B + 1079)), (1, .int x1), (2, .int x2)] [] := by
  unfold fb_X12_oneNumber_23 at h
  refine uu_iload_n dX12_oneNumber_23 rfl (List.mem_of_getElem? (i := 2) rfl) ?_
  refine uu_if_le (tgt := 48) dX12_oneNumber_24 (by decide) (fun c1 => ?_) (fun c1 => ?_)
  · replace h := uu_pos c1 h
    have hr := Option.some.inj h
    subst hr
    exact uu_vret rfl dX12_oneNumber_48
  · replace h := uu_neg c1 h
    refine uu_aload_n dX12_oneNumber_27 rfl (List.mem_of_getElem? (i := 0) rfl) ?_
    refine uu_bipush (v := 48) dX12_oneNumber_28 (by decide) ?_
    refine uu_iload_n dX12_oneNumber_30 rfl (List.mem_of_getElem? (i := 1) rfl) ?_
    refine uu_iload_n dX12_oneNumber_31 rfl (List.mem_of_getElem? (i := 2) rfl) ?_
    obtain ⟨g2, h⟩ := uu_grd h
    refine uu_idiv dX12_oneNumber_32 g2 ?_
    refine uu_bipush (v := 10) dX12_oneNumber_33 (by decide) ?_
    refine uu_irem dX12_oneNumber_35 (by decide) ?_
    refine uu_iadd dX12_oneNumber_36 ?_
    obtain ⟨s3, e4, h⟩ := uu_ob h
    refine uu_cv (d1 := 0) (k := 1079) (ci := 12) (T := TX12) (N := 153) (As := [.int ((48 : Int32) + ((x1 / x2) - (x1 / x2) / 10 * 10))]) (st := []) (st' := []) (xc_X12_add uk  e4) so_1079.is (by decide) rfl kX12_add lX12_178 sX12_add (by decide) (Nat.le_of_ble_eq_true rfl) dX12_oneNumber_37 rfl ?_
    refine uu_iload_n dX12_oneNumber_40 rfl (List.mem_of_getElem? (i := 2) rfl) ?_
    refine uu_bipush (v := 10) dX12_oneNumber_41 (by decide) ?_
    refine uu_idiv dX12_oneNumber_43 (by decide) ?_
    refine uu_istore_n dX12_oneNumber_44 rfl (by decide) rfl ?_
    refine uu_goto (tgt := 23) dX12_oneNumber_45 (by decide) ?_
    refine uu_lv [1, 2, 0] (lv' := [(0, .ref (B + 1079)), (1, .int x1), (2, .int (x2 / 10))]) rfl ?_
    exact hK23 x1 (x2 / 10) _ _ h
def fn_X12_oneNumber_23  : Nat → Int32 → Int32 → uS → Option uS
  | 0 => fun _ _ _ => none
  | n + 1 => fb_X12_oneNumber_23 (fn_X12_oneNumber_23  n)
set_option maxRecDepth 100000 in
set_option maxHeartbeats 4000000 in
theorem xn_X12_oneNumber_23 {l : Launch} {D : va_G} {A : Nat → ClassId} {B : Nat} {Z : State → Heap → Prop} {vF : Value} (uk : uK B Z vF)   : ∀ (n : Nat) (x1 : Int32) (x2 : Int32)  (s : uS) (r : uS), fn_X12_oneNumber_23  n x1 x2 s = some r → GU l D A B Z mX12_oneNumber 1 (r, none) s 23 [(0, .ref (B + 1079)), (1, .int x1), (2, .int x2)] [] := by
  intro n
  induction n with
  | zero => intro x1 x2 s r h
            cases h
  | succ n ih => intro x1 x2 s r h
                 exact xb_X12_oneNumber_23 uk ih  h
def fb_X12_oneNumber_2 (K2 : Int32 → Int32 → uS → Option uS) (x1 : Int32) (x2 : Int32) (s : uS) : Option uS := if ¬ x2 = 0 then (if (x1 / x2) < 10 then (fn_X12_oneNumber_23 uFu x1 x2 (wI s 1079 21 0)) else (K2 x1 (x2 * 10) s)) else none
set_option maxRecDepth 100000 in
set_option maxHeartbeats 4000000 in
theorem xb_X12_oneNumber_2 {l : Launch} {D : va_G} {A : Nat → ClassId} {B : Nat} {Z : State → Heap → Prop} {vF : Value} (uk : uK B Z vF) {K2 : Int32 → Int32 → uS → Option uS} (hK2 : ∀ (x1 : Int32) (x2 : Int32)  (s : uS) (r : uS), K2 x1 x2 s = some r → GU l D A B Z mX12_oneNumber 1 (r, none) s 2 [(0, .ref (B + 1079)), (1, .int x1), (2, .int x2)] []) {x1 : Int32} {x2 : Int32} {s : uS} {r : uS}  (h : fb_X12_oneNumber_2 K2 x1 x2 s = some r) : GU l D A B Z mX12_oneNumber 1 (r, none) s 2 [(0, .ref (B + 1079)), (1, .int x1), (2, .int x2)] [] := by
  unfold fb_X12_oneNumber_2 at h
  refine uu_iload_n dX12_oneNumber_2 rfl (List.mem_of_getElem? (i := 1) rfl) ?_
  refine uu_iload_n dX12_oneNumber_3 rfl (List.mem_of_getElem? (i := 2) rfl) ?_
  obtain ⟨g1, h⟩ := uu_grd h
  refine uu_idiv dX12_oneNumber_4 g1 ?_
  refine uu_bipush (v := 10) dX12_oneNumber_5 (by decide) ?_
  refine uu_icmp_lt (tgt := 18) dX12_oneNumber_7 (by decide) (fun c2 => ?_) (fun c2 => ?_)
  · replace h := uu_pos c2 h
    refine uu_aload_n dX12_oneNumber_18 rfl (List.mem_of_getElem? (i := 0) rfl) ?_
    refine uu_iconst (v := 0) dX12_oneNumber_19 (by decide) ?_
    refine uu_puti (ft := .int) (ci := 12) (N := 153) fX12_110 ptX12 (Or.inl rfl) (by decide) so_1079.is (by decide) (by decide) (by decide +kernel) rfl rfl dX12_oneNumber_20 ?_
    exact xn_X12_oneNumber_23 uk  _ _ _ _ _ h
  · replace h := uu_neg c2 h
    refine uu_iload_n dX12_oneNumber_10 rfl (List.mem_of_getElem? (i := 2) rfl) ?_
    refine uu_bipush (v := 10) dX12_oneNumber_11 (by decide) ?_
    refine uu_imul dX12_oneNumber_13 ?_
    refine uu_istore_n dX12_oneNumber_14 rfl (by decide) rfl ?_
    refine uu_goto (tgt := 2) dX12_oneNumber_15 (by decide) ?_
    refine uu_lv [1, 2, 0] (lv' := [(0, .ref (B + 1079)), (1, .int x1), (2, .int (x2 * 10))]) rfl ?_
    exact hK2 x1 (x2 * 10) _ _ h
def fn_X12_oneNumber_2  : Nat → Int32 → Int32 → uS → Option uS
  | 0 => fun _ _ _ => none
  | n + 1 => fb_X12_oneNumber_2 (fn_X12_oneNumber_2  n)
set_option maxRecDepth 100000 in
set_option maxHeartbeats 4000000 in
theorem xn_X12_oneNumber_2 {l : Launch} {D : va_G} {A : Nat → ClassId} {B : Nat} {Z : State → Heap → Prop} {vF : Value} (uk : uK B Z vF)   : ∀ (n : Nat) (x1 : Int32) (x2 : Int32)  (s : uS) (r : uS), fn_X12_oneNumber_2  n x1 x2 s = some r → GU l D A B Z mX12_oneNumber 1 (r, none) s 2 [(0, .ref (B + 1079)), (1, .int x1), (2, .int x2)] [] := by
  intro n
  induction n with
  | zero => intro x1 x2 s r h
            cases h
  | succ n ih => intro x1 x2 s r h
                 exact xb_X12_oneNumber_2 uk ih  h
def fn_X12_oneNumber (x1 : Int32) (s : uS) : Option uS := fn_X12_oneNumber_2 uFu x1 1 s
set_option maxRecDepth 100000 in
set_option maxHeartbeats 4000000 in
theorem xc_X12_oneNumber {l : Launch} {D : va_G} {A : Nat → ClassId} {B : Nat} {Z : State → Heap → Prop} {vF : Value} (uk : uK B Z vF) {x1 : Int32} {s : uS} {r : uS}  (h : fn_X12_oneNumber x1 s = some r) : CU l D A B Z 1 mX12_oneNumber s [.ref (B + 1079), .int x1] (r, none) := by
  unfold fn_X12_oneNumber at h
  refine cu_of rfl uk.1.1 (Nat.le_of_ble_eq_true rfl) ?_
  show GU _ _ _ _ _ _ _ _ _ 0 [(0, .ref (B + 1079)), (1, .int x1)] []
  refine uu_iconst (v := 1) dX12_oneNumber_0 (by decide) ?_
  refine uu_istore_n dX12_oneNumber_1 rfl (by decide) rfl ?_
  refine uu_lv [1, 2, 0] (lv' := [(0, .ref (B + 1079)), (1, .int x1), (2, .int 1)]) rfl ?_
  exact xn_X12_oneNumber_2 uk  _ _ _ _ _ h
abbrev mX12_tested : hM := (yX12_tested, cX12_tested, 6, (some (.boolean)))
theorem dX12_tested_61 : decode cX12_tested 61 = .ok (.iload 5, 2) := by decide +kernel
theorem dX12_tested_63 : decode cX12_tested 63 = .ok (.aload_n 0, 1) := by decide +kernel
theorem dX12_tested_64 : decode cX12_tested 64 = .ok (.getfield 113, 3) := by decide +kernel
theorem dX12_tested_67 : decode cX12_tested 67 = .ok (.if_icmp .ge 31, 3) := by decide +kernel
theorem dX12_tested_98 : decode cX12_tested 98 = .ok (.iload_n 2, 1) := by decide +kernel
theorem dX12_tested_99 : decode cX12_tested 99 = .ok (.ifCond .ne 19, 3) := by decide +kernel
theorem dX12_tested_118 : decode cX12_tested 118 = .ok (.iconst 1, 1) := by decide +kernel
theorem dX12_tested_119 : decode cX12_tested 119 = .ok (.goto 4, 3) := by decide +kernel
theorem dX12_tested_123 : decode cX12_tested 123 = .ok (.istore_n 2, 1) := by decide +kernel
theorem dX12_tested_124 : decode cX12_tested 124 = .ok (.iinc 3 1, 3) := by decide +kernel
theorem dX12_tested_127 : decode cX12_tested 127 = .ok (.goto (-100), 3) := by decide +kernel
theorem dX12_tested_102 : decode cX12_tested 102 = .ok (.aload_n 0, 1) := by decide +kernel
theorem dX12_tested_103 : decode cX12_tested 103 = .ok (.invokevirtual 627, 3) := by decide +kernel
theorem dX12_tested_106 : decode cX12_tested 106 = .ok (.aload_n 0, 1) := by decide +kernel
theorem dX12_tested_107 : decode cX12_tested 107 = .ok (.getfield 313, 3) := by decide +kernel
theorem dX12_tested_110 : decode cX12_tested 110 = .ok (.iload_n 1, 1) := by decide +kernel
theorem dX12_tested_111 : decode cX12_tested 111 = .ok (.iaload, 1) := by decide +kernel
theorem dX12_tested_112 : decode cX12_tested 112 = .ok (.invokestatic 640, 3) := by decide +kernel
theorem dX12_tested_115 : decode cX12_tested 115 = .ok (.ifCond .eq 7, 3) := by decide +kernel
theorem dX12_tested_122 : decode cX12_tested 122 = .ok (.iconst 0, 1) := by decide +kernel
theorem dX12_tested_70 : decode cX12_tested 70 = .ok (.aload_n 0, 1) := by decide +kernel
theorem dX12_tested_71 : decode cX12_tested 71 = .ok (.getfield 122, 3) := by decide +kernel
theorem dX12_tested_74 : decode cX12_tested 74 = .ok (.iload 5, 2) := by decide +kernel
theorem dX12_tested_76 : decode cX12_tested 76 = .ok (.aload_n 0, 1) := by decide +kernel
theorem dX12_tested_77 : decode cX12_tested 77 = .ok (.getfield 260, 3) := by decide +kernel
theorem dX12_tested_80 : decode cX12_tested 80 = .ok (.aload_n 0, 1) := by decide +kernel
theorem dX12_tested_81 : decode cX12_tested 81 = .ok (.getfield 343, 3) := by decide +kernel
theorem dX12_tested_84 : decode cX12_tested 84 = .ok (.iload 4, 2) := by decide +kernel
theorem dX12_tested_86 : decode cX12_tested 86 = .ok (.iaload, 1) := by decide +kernel
theorem dX12_tested_87 : decode cX12_tested 87 = .ok (.iload 5, 2) := by decide +kernel
theorem dX12_tested_89 : decode cX12_tested 89 = .ok (.iadd, 1) := by decide +kernel
theorem dX12_tested_90 : decode cX12_tested 90 = .ok (.iaload, 1) := by decide +kernel
theorem dX12_tested_91 : decode cX12_tested 91 = .ok (.iastore, 1) := by decide +kernel
theorem dX12_tested_92 : decode cX12_tested 92 = .ok (.iinc 5 1, 3) := by decide +kernel
theorem dX12_tested_95 : decode cX12_tested 95 = .ok (.goto (-34), 3) := by decide +kernel
theorem dX12_tested_27 : decode cX12_tested 27 = .ok (.iload_n 3, 1) := by decide +kernel
theorem dX12_tested_28 : decode cX12_tested 28 = .ok (.aload_n 0, 1) := by decide +kernel
theorem dX12_tested_29 : decode cX12_tested 29 = .ok (.getfield 300, 3) := by decide +kernel
theorem dX12_tested_32 : decode cX12_tested 32 = .ok (.iload_n 1, 1) := by decide +kernel
theorem dX12_tested_33 : decode cX12_tested 33 = .ok (.iaload, 1) := by decide +kernel
theorem dX12_tested_34 : decode cX12_tested 34 = .ok (.if_icmp .ge 96, 3) := by decide +kernel
theorem dX12_tested_130 : decode cX12_tested 130 = .ok (.iload_n 2, 1) := by decide +kernel
theorem dX12_tested_131 : decode cX12_tested 131 = .ok (.ireturn, 1) := by decide +kernel
theorem dX12_tested_37 : decode cX12_tested 37 = .ok (.aload_n 0, 1) := by decide +kernel
theorem dX12_tested_38 : decode cX12_tested 38 = .ok (.getfield 454, 3) := by decide +kernel
theorem dX12_tested_41 : decode cX12_tested 41 = .ok (.iload_n 1, 1) := by decide +kernel
theorem dX12_tested_42 : decode cX12_tested 42 = .ok (.iaload, 1) := by decide +kernel
theorem dX12_tested_43 : decode cX12_tested 43 = .ok (.iload_n 3, 1) := by decide +kernel
theorem dX12_tested_44 : decode cX12_tested 44 = .ok (.iadd, 1) := by decide +kernel
theorem dX12_tested_45 : decode cX12_tested 45 = .ok (.istore 4, 2) := by decide +kernel
theorem dX12_tested_47 : decode cX12_tested 47 = .ok (.aload_n 0, 1) := by decide +kernel
theorem dX12_tested_48 : decode cX12_tested 48 = .ok (.aload_n 0, 1) := by decide +kernel
theorem dX12_tested_49 : decode cX12_tested 49 = .ok (.getfield 346, 3) := by decide +kernel
theorem dX12_tested_52 : decode cX12_tested 52 = .ok (.iload 4, 2) := by decide +kernel
theorem dX12_tested_54 : decode cX12_tested 54 = .ok (.iaload, 1) := by decide +kernel
theorem dX12_tested_55 : decode cX12_tested 55 = .ok (.putfield 113, 3) := by decide +kernel
theorem dX12_tested_58 : decode cX12_tested 58 = .ok (.iconst 0, 1) := by decide +kernel
theorem dX12_tested_59 : decode cX12_tested 59 = .ok (.istore 5, 2) := by decide +kernel
theorem dX12_tested_0 : decode cX12_tested 0 = .ok (.aload_n 0, 1) := by decide +kernel
theorem dX12_tested_1 : decode cX12_tested 1 = .ok (.getfield 310, 3) := by decide +kernel
theorem dX12_tested_4 : decode cX12_tested 4 = .ok (.iload_n 1, 1) := by decide +kernel
theorem dX12_tested_5 : decode cX12_tested 5 = .ok (.iaload, 1) := by decide +kernel
theorem dX12_tested_6 : decode cX12_tested 6 = .ok (.iconst 3, 1) := by decide +kernel
theorem dX12_tested_7 : decode cX12_tested 7 = .ok (.if_icmp .eq 8, 3) := by decide +kernel
theorem dX12_tested_15 : decode cX12_tested 15 = .ok (.iconst 0, 1) := by decide +kernel
theorem dX12_tested_16 : decode cX12_tested 16 = .ok (.istore_n 2, 1) := by decide +kernel
theorem dX12_tested_17 : decode cX12_tested 17 = .ok (.aload_n 0, 1) := by decide +kernel
theorem dX12_tested_18 : decode cX12_tested 18 = .ok (.aload_n 0, 1) := by decide +kernel
theorem dX12_tested_19 : decode cX12_tested 19 = .ok (.getfield 643, 3) := by decide +kernel
theorem kX12_oneNumber : h_ml mX12_oneNumber 1 := ⟨h_t9 182 rfl rfl, h_t1 16 rfl rfl, ⟨by decide, by decide, by decide +kernel⟩, by decide⟩
theorem lX12_652 : Cond.methodLink RX12 652 mX12_oneNumber.1 ∈ lw_g := h_t9 179 rfl rfl
theorem sX12_oneNumber : Cond.instanceMethod mX12_oneNumber.1 ∈ lw_g ∧ Cond.selects mX12_oneNumber.1.cls mX12_oneNumber.1 mX12_oneNumber.1 ∈ lw_g := ⟨h_t9 181 rfl rfl, h_ins 186 rfl⟩
theorem dX12_tested_22 : decode cX12_tested 22 = .ok (.invokevirtual 652, 3) := by decide +kernel
theorem dX12_tested_25 : decode cX12_tested 25 = .ok (.iconst 0, 1) := by decide +kernel
theorem dX12_tested_26 : decode cX12_tested 26 = .ok (.istore_n 3, 1) := by decide +kernel
theorem dX12_tested_10 : decode cX12_tested 10 = .ok (.aload_n 0, 1) := by decide +kernel
theorem dX12_tested_11 : decode cX12_tested 11 = .ok (.getfield 646, 3) := by decide +kernel
theorem dX12_tested_14 : decode cX12_tested 14 = .ok (.ireturn, 1) := by decide +kernel
def fb_X12_tested_61 (K27 : Int32 → Bool → Int32 → uS → Option (uS × Bool)) (K61 : Int32 → Bool → Int32 → Int32 → Int32 → uS → Option (uS × Bool)) (x1 : Int32) (b2 : Bool) (x3 : Int32) (x4 : Int32) (x5 : Int32) (s : uS) : Option (uS × Bool) := if (s.I 1079 23) ≤ x5 then (if b2 = true then (K27 x1 true (x3 + 1) s) else ((fn_X12_numeric s).bind fun v3 => (iget 20 s 1110 x1).bind fun v5 => (fn_X12_related v3 v5 s).bind fun v7 => if v7 = true then (K27 x1 true (x3 + 1) s) else (K27 x1 false (x3 + 1) s))) else ((iget 20 s 1116 x4).bind fun v10 => (iget 20 s 1097 (v10 + x5)).bind fun v12 => (iput 20 s 1094 x5 v12).bind fun s14 => K61 x1 b2 x3 x4 (x5 + 1) s14)
set_option maxRecDepth 100000 in
set_option maxHeartbeats 4000000 in
theorem xb_X12_tested_61 {l : Launch} {D : va_G} {A : Nat → ClassId} {B : Nat} {Z : State → Heap → Prop} {vF : Value} (uk : uK B Z vF) {K27 : Int32 → Bool → Int32 → uS → Option (uS × Bool)} {K61 : Int32 → Bool → Int32 → Int32 → Int32 → uS → Option (uS × Bool)} (hK27 : ∀ (x1 : Int32) (b2 : Bool) (x3 : Int32)  (s : uS) (r : (uS × Bool)), K27 x1 b2 x3 s = some r → GU l D A B Z mX12_tested 3 (r.1, some (.int (bI r.2))) s 27 [(0, .ref (B + 1079)), (1, .int x1), (2, .int (bI b2)), (3, .int x3)] []) (hK61 : ∀ (x1 : Int32) (b2 : Bool) (x3 : Int32) (x4 : Int32) (x5 : Int32)  (s : uS) (r : (uS × Bool)), K61 x1 b2 x3 x4 x5 s = some r → GU l D A B Z mX12_tested 3 (r.1, some (.int (bI r.2))) s 61 [(0, .ref (B + 1079)), (1, .int x1), (2, .int (bI b2)), (3, .int x3), (4, .int x4), (5, .int x5)] []) {x1 : Int32} {b2 : Bool} {x3 : Int32} {x4 : Int32} {x5 : Int32} {s : uS} {r : (uS × Bool)}  (h : fb_X12_tested_61 K27 K61 x1 b2 x3 x4 x5 s = some r) : GU l D A B Z mX12_tested 3 (r.1, some (.int (bI r.2))) s 61 [(0, .ref (B + 1079)), (1, .int x1), (2, .int (bI b2)), (3, .int x3), (4, .int x4), (5, .int x5)] [] := by
  unfold fb_X12_tested_61 at h
  refine uu_iload dX12_tested_61 (List.mem_of_getElem? (i := 5) rfl) ?_
  refine uu_aload_n dX12_tested_63 rfl (List.mem_of_getElem? (i := 0) rfl) ?_
  refine uu_geti (ci := 12) (N := 153) fX12_113 (by decide) so_1079.is (by decide) (by decide) dX12_tested_64 ?_
  refine uu_icmp_ge (tgt := 98) dX12_tested_67 (by decide) (fun c1 => ?_) (fun c1 => ?_)
  · replace h := uu_pos c1 h
    refine uu_iload_n dX12_tested_98 rfl (List.mem_of_getElem? (i := 2) rfl) ?_
    refine uu_ifb_ne (tgt := 118) dX12_tested_99 (by decide) (fun c2 => ?_) (fun c2 => ?_)
    · replace h := uu_pos c2 h
      refine uu_iconst (v := 1) dX12_tested_118 (by decide) ?_
      refine uu_goto (tgt := 123) dX12_tested_119 (by decide) ?_
      refine uu_istore_n dX12_tested_123 rfl (by decide) rfl ?_
      refine uu_iinc (v := x3 + 1) dX12_tested_124 (k := 3) rfl rfl (by decide) rfl ?_
      refine uu_goto (tgt := 27) dX12_tested_127 (by decide) ?_
      refine uu_lv [2, 3, 1, 0] (lv' := [(0, .ref (B + 1079)), (1, .int x1), (2, .int 1), (3, .int (x3 + 1))]) rfl ?_
      exact hK27 x1 true (x3 + 1) _ _ h
    · replace h := uu_neg c2 h
      refine uu_aload_n dX12_tested_102 rfl (List.mem_of_getElem? (i := 0) rfl) ?_
      obtain ⟨v3, e4, h⟩ := uu_ob h
      refine uu_cv (d1 := 2) (k := 1079) (ci := 12) (T := TX12) (N := 153) (As := []) (st := []) (st' := [.int v3]) (xc_X12_numeric uk  e4) so_1079.is (by decide) rfl kX12_numeric lX12_627 sX12_numeric (by decide) (Nat.le_of_ble_eq_true rfl) dX12_tested_103 rfl ?_
      refine uu_aload_n dX12_tested_106 rfl (List.mem_of_getElem? (i := 0) rfl) ?_
      refine uu_geta (ci := 12) (N := 153) fX12_313 (by decide) so_1079.is (by decide) (c := 1110) (by decide) dX12_tested_107 ?_
      refine uu_iload_n dX12_tested_110 rfl (List.mem_of_getElem? (i := 1) rfl) ?_
      obtain ⟨v5, e6, h⟩ := uu_ob h
      refine uu_iald e6 dX12_tested_111 ?_
      obtain ⟨v7, e8, h⟩ := uu_ob h
      refine uu_cs (d1 := 0) (As := [.int v3, .int v5]) (st := []) (st' := [.int (bI v7)]) (xc_X12_related uk  e8) kX12_related lX12_640 sX12_related (by decide) (Nat.le_of_ble_eq_true rfl) dX12_tested_112 rfl ?_
      refine uu_ifb_eq (tgt := 122) dX12_tested_115 (by decide) (fun c9 => ?_) (fun c9 => ?_)
      · replace h := uu_neg c9 h
        refine uu_iconst (v := 0) dX12_tested_122 (by decide) ?_
        refine uu_istore_n dX12_tested_123 rfl (by decide) rfl ?_
        refine uu_iinc (v := x3 + 1) dX12_tested_124 (k := 3) rfl rfl (by decide) rfl ?_
        refine uu_goto (tgt := 27) dX12_tested_127 (by decide) ?_
        refine uu_lv [2, 3, 1, 0] (lv' := [(0, .ref (B + 1079)), (1, .int x1), (2, .int 0), (3, .int (x3 + 1))]) rfl ?_
        exact hK27 x1 false (x3 + 1) _ _ h
      · replace h := uu_pos c9 h
        refine uu_iconst (v := 1) dX12_tested_118 (by decide) ?_
        refine uu_goto (tgt := 123) dX12_tested_119 (by decide) ?_
        refine uu_istore_n dX12_tested_123 rfl (by decide) rfl ?_
        refine uu_iinc (v := x3 + 1) dX12_tested_124 (k := 3) rfl rfl (by decide) rfl ?_
        refine uu_goto (tgt := 27) dX12_tested_127 (by decide) ?_
        refine uu_lv [2, 3, 1, 0] (lv' := [(0, .ref (B + 1079)), (1, .int x1), (2, .int 1), (3, .int (x3 + 1))]) rfl ?_
        exact hK27 x1 true (x3 + 1) _ _ h
  · replace h := uu_neg c1 h
    refine uu_aload_n dX12_tested_70 rfl (List.mem_of_getElem? (i := 0) rfl) ?_
    refine uu_geta (ci := 12) (N := 153) fX12_122 (by decide) so_1079.is (by decide) (c := 1094) (by decide) dX12_tested_71 ?_
    refine uu_iload dX12_tested_74 (List.mem_of_getElem? (i := 5) rfl) ?_
    refine uu_aload_n dX12_tested_76 rfl (List.mem_of_getElem? (i := 0) rfl) ?_
    refine uu_geta (ci := 12) (N := 153) fX12_260 (by decide) so_1079.is (by decide) (c := 1097) (by decide) dX12_tested_77 ?_
    refine uu_aload_n dX12_tested_80 rfl (List.mem_of_getElem? (i := 0) rfl) ?_
    refine uu_geta (ci := 12) (N := 153) fX12_343 (by decide) so_1079.is (by decide) (c := 1116) (by decide) dX12_tested_81 ?_
    refine uu_iload dX12_tested_84 (List.mem_of_getElem? (i := 4) rfl) ?_
    obtain ⟨v10, e11, h⟩ := uu_ob h
    refine uu_iald e11 dX12_tested_86 ?_
    refine uu_iload dX12_tested_87 (List.mem_of_getElem? (i := 5) rfl) ?_
    refine uu_iadd dX12_tested_89 ?_
    obtain ⟨v12, e13, h⟩ := uu_ob h
    refine uu_iald e13 dX12_tested_90 ?_
    obtain ⟨s14, e15, h⟩ := uu_ob h
    refine uu_iast e15 dX12_tested_91 ?_
    refine uu_iinc (v := x5 + 1) dX12_tested_92 (k := 5) rfl rfl (by decide) rfl ?_
    refine uu_goto (tgt := 61) dX12_tested_95 (by decide) ?_
    refine uu_lv [1, 2, 3, 4, 5, 0] (lv' := [(0, .ref (B + 1079)), (1, .int x1), (2, .int (bI b2)), (3, .int x3), (4, .int x4), (5, .int (x5 + 1))]) rfl ?_
    exact hK61 x1 b2 x3 x4 (x5 + 1) _ _ h
def fn_X12_tested_61 (K27 : Int32 → Bool → Int32 → uS → Option (uS × Bool)) : Nat → Int32 → Bool → Int32 → Int32 → Int32 → uS → Option (uS × Bool)
  | 0 => fun _ _ _ _ _ _ => none
  | n + 1 => fb_X12_tested_61 K27 (fn_X12_tested_61 K27 n)
set_option maxRecDepth 100000 in
set_option maxHeartbeats 4000000 in
theorem xn_X12_tested_61 {l : Launch} {D : va_G} {A : Nat → ClassId} {B : Nat} {Z : State → Heap → Prop} {vF : Value} (uk : uK B Z vF) {K27 : Int32 → Bool → Int32 → uS → Option (uS × Bool)} (hK27 : ∀ (x1 : Int32) (b2 : Bool) (x3 : Int32)  (s : uS) (r : (uS × Bool)), K27 x1 b2 x3 s = some r → GU l D A B Z mX12_tested 3 (r.1, some (.int (bI r.2))) s 27 [(0, .ref (B + 1079)), (1, .int x1), (2, .int (bI b2)), (3, .int x3)] []) : ∀ (n : Nat) (x1 : Int32) (b2 : Bool) (x3 : Int32) (x4 : Int32) (x5 : Int32)  (s : uS) (r : (uS × Bool)), fn_X12_tested_61 K27 n x1 b2 x3 x4 x5 s = some r → GU l D A B Z mX12_tested 3 (r.1, some (.int (bI r.2))) s 61 [(0, .ref (B + 1079)), (1, .int x1), (2, .int (bI b2)), (3, .int x3), (4, .int x4), (5, .int x5)] [] := by
  intro n
  induction n with
  | zero => intro x1 b2 x3 x4 x5 s r h
            cases h
  | succ n ih => intro x1 b2 x3 x4 x5 s r h
                 exact xb_X12_tested_61 uk hK27 ih  h
def fb_X12_tested_27 (K27 : Int32 → Bool → Int32 → uS → Option (uS × Bool)) (x1 : Int32) (b2 : Bool) (x3 : Int32) (s : uS) : Option (uS × Bool) := (iget 20 s 1105 x1).bind fun v1 => if v1 ≤ x3 then (some (s, b2)) else ((iget 20 s 1104 x1).bind fun v4 => (iget 20 s 1117 (v4 + x3)).bind fun v6 => fn_X12_tested_61 K27 uFu x1 b2 x3 (v4 + x3) 0 (wI s 1079 23 v6))
set_option maxRecDepth 100000 in
set_option maxHeartbeats 4000000 in
theorem xb_X12_tested_27 {l : Launch} {D : va_G} {A : Nat → ClassId} {B : Nat} {Z : State → Heap → Prop} {vF : Value} (uk : uK B Z vF) {K27 : Int32 → Bool → Int32 → uS → Option (uS × Bool)} (hK27 : ∀ (x1 : Int32) (b2 : Bool) (x3 : Int32)  (s : uS) (r : (uS × Bool)), K27 x1 b2 x3 s = some r → GU l D A B Z mX12_tested 3 (r.1, some (.int (bI r.2))) s 27 [(0, .ref (B + 1079)), (1, .int x1), (2, .int (bI b2)), (3, .int x3)] []) {x1 : Int32} {b2 : Bool} {x3 : Int32} {s : uS} {r : (uS × Bool)}  (h : fb_X12_tested_27 K27 x1 b2 x3 s = some r) : GU l D A B Z mX12_tested 3 (r.1, some (.int (bI r.2))) s 27 [(0, .ref (B + 1079)), (1, .int x1), (2, .int (bI b2)), (3, .int x3)] [] := by
  unfold fb_X12_tested_27 at h
  refine uu_iload_n dX12_tested_27 rfl (List.mem_of_getElem? (i := 3) rfl) ?_
  refine uu_aload_n dX12_tested_28 rfl (List.mem_of_getElem? (i := 0) rfl) ?_
  refine uu_geta (ci := 12) (N := 153) fX12_300 (by decide) so_1079.is (by decide) (c := 1105) (by decide) dX12_tested_29 ?_
  refine uu_iload_n dX12_tested_32 rfl (List.mem_of_getElem? (i := 1) rfl) ?_
  obtain ⟨v1, e2, h⟩ := uu_ob h
  refine uu_iald e2 dX12_tested_33 ?_
  refine uu_icmp_ge (tgt := 130) dX12_tested_34 (by decide) (fun c3 => ?_) (fun c3 => ?_)
  · replace h := uu_pos c3 h
    refine uu_iload_n dX12_tested_130 rfl (List.mem_of_getElem? (i := 2) rfl) ?_
    have hr := Option.some.inj h
    subst hr
    exact uu_zret (x := bI b2) rfl (bI_z _) dX12_tested_131
  · replace h := uu_neg c3 h
    refine uu_aload_n dX12_tested_37 rfl (List.mem_of_getElem? (i := 0) rfl) ?_
    refine uu_geta (ci := 12) (N := 153) fX12_454 (by decide) so_1079.is (by decide) (c := 1104) (by decide) dX12_tested_38 ?_
    refine uu_iload_n dX12_tested_41 rfl (List.mem_of_getElem? (i := 1) rfl) ?_
    obtain ⟨v4, e5, h⟩ := uu_ob h
    refine uu_iald e5 dX12_tested_42 ?_
    refine uu_iload_n dX12_tested_43 rfl (List.mem_of_getElem? (i := 3) rfl) ?_
    refine uu_iadd dX12_tested_44 ?_
    refine uu_istore dX12_tested_45 (by decide) rfl ?_
    refine uu_aload_n dX12_tested_47 rfl (List.mem_of_getElem? (i := 1) rfl) ?_
    refine uu_aload_n dX12_tested_48 rfl (List.mem_of_getElem? (i := 1) rfl) ?_
    refine uu_geta (ci := 12) (N := 153) fX12_346 (by decide) so_1079.is (by decide) (c := 1117) (by decide) dX12_tested_49 ?_
    refine uu_iload dX12_tested_52 (List.mem_of_getElem? (i := 0) rfl) ?_
    obtain ⟨v6, e7, h⟩ := uu_ob h
    refine uu_iald e7 dX12_tested_54 ?_
    refine uu_puti (ft := .int) (ci := 12) (N := 153) fX12_113 ptX12 (Or.inl rfl) (by decide) so_1079.is (by decide) (by decide) (by decide +kernel) rfl rfl dX12_tested_55 ?_
    refine uu_iconst (v := 0) dX12_tested_58 (by decide) ?_
    refine uu_istore dX12_tested_59 (by decide) rfl ?_
    refine uu_lv [2, 3, 4, 5, 1, 0] (lv' := [(0, .ref (B + 1079)), (1, .int x1), (2, .int (bI b2)), (3, .int x3), (4, .int (v4 + x3)), (5, .int 0)]) rfl ?_
    exact xn_X12_tested_61 uk hK27 _ _ _ _ _ _ _ _ h
def fn_X12_tested_27  : Nat → Int32 → Bool → Int32 → uS → Option (uS × Bool)
  | 0 => fun _ _ _ _ => none
  | n + 1 => fb_X12_tested_27 (fn_X12_tested_27  n)
set_option maxRecDepth 100000 in
set_option maxHeartbeats 4000000 in
theorem xn_X12_tested_27 {l : Launch} {D : va_G} {A : Nat → ClassId} {B : Nat} {Z : State → Heap → Prop} {vF : Value} (uk : uK B Z vF)   : ∀ (n : Nat) (x1 : Int32) (b2 : Bool) (x3 : Int32)  (s : uS) (r : (uS × Bool)), fn_X12_tested_27  n x1 b2 x3 s = some r → GU l D A B Z mX12_tested 3 (r.1, some (.int (bI r.2))) s 27 [(0, .ref (B + 1079)), (1, .int x1), (2, .int (bI b2)), (3, .int x3)] [] := by
  intro n
  induction n with
  | zero => intro x1 b2 x3 s r h
            cases h
  | succ n ih => intro x1 b2 x3 s r h
                 exact xb_X12_tested_27 uk ih  h
def fn_X12_tested (x1 : Int32) (s : uS) : Option (uS × Bool) := (iget 20 s 1109 x1).bind fun v1 => if v1 = 3 then ((fn_X12_oneNumber (s.I 1079 109) s).bind fun s4 => fn_X12_tested_27 uFu x1 false 0 s4) else (if (s.I 1079 110) = 0 ∨ (s.I 1079 110) = 1 then (some (s, decide ((s.I 1079 110) = 1))) else none)
set_option maxRecDepth 100000 in
set_option maxHeartbeats 4000000 in
theorem xc_X12_tested {l : Launch} {D : va_G} {A : Nat → ClassId} {B : Nat} {Z : State → Heap → Prop} {vF : Value} (uk : uK B Z vF) {x1 : Int32} {s : uS} {r : (uS × Bool)}  (h : fn_X12_tested x1 s = some r) : CU l D A B Z 3 mX12_tested s [.ref (B + 1079), .int x1] (r.1, some (.int (bI r.2))) := by
  unfold fn_X12_tested at h
  refine cu_of rfl uk.1.1 (Nat.le_of_ble_eq_true rfl) ?_
  show GU _ _ _ _ _ _ _ _ _ 0 [(0, .ref (B + 1079)), (1, .int x1)] []
  refine uu_aload_n dX12_tested_0 rfl (List.mem_of_getElem? (i := 0) rfl) ?_
  refine uu_geta (ci := 12) (N := 153) fX12_310 (by decide) so_1079.is (by decide) (c := 1109) (by decide) dX12_tested_1 ?_
  refine uu_iload_n dX12_tested_4 rfl (List.mem_of_getElem? (i := 1) rfl) ?_
  obtain ⟨v1, e2, h⟩ := uu_ob h
  refine uu_iald e2 dX12_tested_5 ?_
  refine uu_iconst (v := 3) dX12_tested_6 (by decide) ?_
  refine uu_icmp_eq (tgt := 15) dX12_tested_7 (by decide) (fun c3 => ?_) (fun c3 => ?_)
  · replace h := uu_pos c3 h
    refine uu_iconst (v := 0) dX12_tested_15 (by decide) ?_
    refine uu_istore_n dX12_tested_16 rfl (by decide) rfl ?_
    refine uu_aload_n dX12_tested_17 rfl (List.mem_of_getElem? (i := 1) rfl) ?_
    refine uu_aload_n dX12_tested_18 rfl (List.mem_of_getElem? (i := 1) rfl) ?_
    refine uu_geti (ci := 12) (N := 153) fX12_643 (by decide) so_1079.is (by decide) (by decide) dX12_tested_19 ?_
    obtain ⟨s4, e5, h⟩ := uu_ob h
    refine uu_cv (d1 := 1) (k := 1079) (ci := 12) (T := TX12) (N := 153) (As := [.int (s.I 1079 109)]) (st := []) (st' := []) (xc_X12_oneNumber uk  e5) so_1079.is (by decide) rfl kX12_oneNumber lX12_652 sX12_oneNumber (by decide) (Nat.le_of_ble_eq_true rfl) dX12_tested_22 rfl ?_
    refine uu_iconst (v := 0) dX12_tested_25 (by decide) ?_
    refine uu_istore_n dX12_tested_26 rfl (by decide) rfl ?_
    refine uu_lv [2, 3, 1, 0] (lv' := [(0, .ref (B + 1079)), (1, .int x1), (2, .int 0), (3, .int 0)]) rfl ?_
    exact xn_X12_tested_27 uk  _ _ _ _ _ _ h
  · replace h := uu_neg c3 h
    refine uu_aload_n dX12_tested_10 rfl (List.mem_of_getElem? (i := 0) rfl) ?_
    refine uu_geti (ci := 12) (N := 153) fX12_646 (by decide) so_1079.is (by decide) (by decide) dX12_tested_11 ?_
    obtain ⟨g6, h⟩ := uu_grd h
    have hr := Option.some.inj h
    subst hr
    exact uu_zret2 g6 rfl dX12_tested_14
abbrev mX12_part : hM := (yX12_part, cX12_part, 5, none)
theorem dX12_part_54 : decode cX12_part 54 = .ok (.iload 4, 2) := by decide +kernel
theorem dX12_part_56 : decode cX12_part 56 = .ok (.iload_n 3, 1) := by decide +kernel
theorem dX12_part_57 : decode cX12_part 57 = .ok (.if_icmp .ge 27, 3) := by decide +kernel
theorem dX12_part_84 : decode cX12_part 84 = .ok (.aload_n 0, 1) := by decide +kernel
theorem dX12_part_85 : decode cX12_part 85 = .ok (.iload_n 3, 1) := by decide +kernel
theorem dX12_part_86 : decode cX12_part 86 = .ok (.putfield 110, 3) := by decide +kernel
theorem dX12_part_89 : decode cX12_part 89 = .ok (.return_, 1) := by decide +kernel
theorem dX12_part_60 : decode cX12_part 60 = .ok (.aload_n 0, 1) := by decide +kernel
theorem dX12_part_61 : decode cX12_part 61 = .ok (.getfield 116, 3) := by decide +kernel
theorem dX12_part_64 : decode cX12_part 64 = .ok (.iload 4, 2) := by decide +kernel
theorem dX12_part_66 : decode cX12_part 66 = .ok (.aload_n 0, 1) := by decide +kernel
theorem dX12_part_67 : decode cX12_part 67 = .ok (.getfield 116, 3) := by decide +kernel
theorem dX12_part_70 : decode cX12_part 70 = .ok (.iload_n 2, 1) := by decide +kernel
theorem dX12_part_71 : decode cX12_part 71 = .ok (.iconst 1, 1) := by decide +kernel
theorem dX12_part_72 : decode cX12_part 72 = .ok (.iadd, 1) := by decide +kernel
theorem dX12_part_73 : decode cX12_part 73 = .ok (.iload 4, 2) := by decide +kernel
theorem dX12_part_75 : decode cX12_part 75 = .ok (.iadd, 1) := by decide +kernel
theorem dX12_part_76 : decode cX12_part 76 = .ok (.iaload, 1) := by decide +kernel
theorem dX12_part_77 : decode cX12_part 77 = .ok (.iastore, 1) := by decide +kernel
theorem dX12_part_78 : decode cX12_part 78 = .ok (.iinc 4 1, 3) := by decide +kernel
theorem dX12_part_81 : decode cX12_part 81 = .ok (.goto (-27), 3) := by decide +kernel
theorem dX12_part_0 : decode cX12_part 0 = .ok (.aload_n 0, 1) := by decide +kernel
theorem dX12_part_1 : decode cX12_part 1 = .ok (.getfield 319, 3) := by decide +kernel
theorem dX12_part_4 : decode cX12_part 4 = .ok (.iload_n 1, 1) := by decide +kernel
theorem dX12_part_5 : decode cX12_part 5 = .ok (.iaload, 1) := by decide +kernel
theorem dX12_part_6 : decode cX12_part 6 = .ok (.ifCond .ne 4, 3) := by decide +kernel
theorem dX12_part_10 : decode cX12_part 10 = .ok (.aload_n 0, 1) := by decide +kernel
theorem dX12_part_11 : decode cX12_part 11 = .ok (.getfield 319, 3) := by decide +kernel
theorem dX12_part_14 : decode cX12_part 14 = .ok (.iload_n 1, 1) := by decide +kernel
theorem dX12_part_15 : decode cX12_part 15 = .ok (.iaload, 1) := by decide +kernel
theorem dX12_part_16 : decode cX12_part 16 = .ok (.iconst 1, 1) := by decide +kernel
theorem dX12_part_17 : decode cX12_part 17 = .ok (.if_icmp .ne 17, 3) := by decide +kernel
theorem dX12_part_34 : decode cX12_part 34 = .ok (.iload_n 2, 1) := by decide +kernel
theorem dX12_part_35 : decode cX12_part 35 = .ok (.ifCond .ge 7, 3) := by decide +kernel
theorem dX12_part_42 : decode cX12_part 42 = .ok (.aload_n 0, 1) := by decide +kernel
theorem dX12_part_43 : decode cX12_part 43 = .ok (.getfield 110, 3) := by decide +kernel
theorem dX12_part_46 : decode cX12_part 46 = .ok (.iload_n 2, 1) := by decide +kernel
theorem dX12_part_47 : decode cX12_part 47 = .ok (.isub, 1) := by decide +kernel
theorem dX12_part_48 : decode cX12_part 48 = .ok (.iconst 1, 1) := by decide +kernel
theorem dX12_part_49 : decode cX12_part 49 = .ok (.isub, 1) := by decide +kernel
theorem dX12_part_50 : decode cX12_part 50 = .ok (.istore_n 3, 1) := by decide +kernel
theorem dX12_part_51 : decode cX12_part 51 = .ok (.iconst 0, 1) := by decide +kernel
theorem dX12_part_52 : decode cX12_part 52 = .ok (.istore 4, 2) := by decide +kernel
theorem dX12_part_38 : decode cX12_part 38 = .ok (.iconst 0, 1) := by decide +kernel
theorem dX12_part_39 : decode cX12_part 39 = .ok (.goto 11, 3) := by decide +kernel
theorem dX12_part_20 : decode cX12_part 20 = .ok (.aload_n 0, 1) := by decide +kernel
theorem dX12_part_21 : decode cX12_part 21 = .ok (.iload_n 2, 1) := by decide +kernel
theorem dX12_part_22 : decode cX12_part 22 = .ok (.ifCond .ge 7, 3) := by decide +kernel
theorem dX12_part_29 : decode cX12_part 29 = .ok (.iload_n 2, 1) := by decide +kernel
theorem dX12_part_30 : decode cX12_part 30 = .ok (.putfield 110, 3) := by decide +kernel
theorem dX12_part_33 : decode cX12_part 33 = .ok (.return_, 1) := by decide +kernel
theorem dX12_part_25 : decode cX12_part 25 = .ok (.iconst 0, 1) := by decide +kernel
theorem dX12_part_26 : decode cX12_part 26 = .ok (.goto 4, 3) := by decide +kernel
theorem dX12_part_9 : decode cX12_part 9 = .ok (.return_, 1) := by decide +kernel
def fb_X12_part_54 (K54 : Int32 → Int32 → Int32 → uS → Option uS) (x2 : Int32) (x3 : Int32) (x4 : Int32) (s : uS) : Option uS := if x3 ≤ x4 then (some (wI s 1079 21 x3)) else ((iget 20 s 1093 ((x2 + 1) + x4)).bind fun v2 => (iput 20 s 1093 x4 v2).bind fun s4 => K54 x2 x3 (x4 + 1) s4)
set_option maxRecDepth 100000 in
set_option maxHeartbeats 4000000 in
theorem xb_X12_part_54 {l : Launch} {D : va_G} {A : Nat → ClassId} {B : Nat} {Z : State → Heap → Prop} {vF : Value} (uk : uK B Z vF) {K54 : Int32 → Int32 → Int32 → uS → Option uS} (hK54 : ∀ (x2 : Int32) (x3 : Int32) (x4 : Int32)  (s : uS) (r : uS), K54 x2 x3 x4 s = some r → GU l D A B Z mX12_part 0 (r, none) s 54 [(0, .ref (B + 1079)), (2, .int x2), (3, .int x3), (4, .int x4)] []) {x2 : Int32} {x3 : Int32} {x4 : Int32} {s : uS} {r : uS}  (h : fb_X12_part_54 K54 x2 x3 x4 s = some r) : GU l D A B Z mX12_part 0 (r, none) s 54 [(0, .ref (B + 1079)), (2, .int x2), (3, .int x3), (4, .int x4)] [] := by
  unfold fb_X12_part_54 at h
  refine uu_iload dX12_part_54 (List.mem_of_getElem? (i := 3) rfl) ?_
  refine uu_iload_n dX12_part_56 rfl (List.mem_of_getElem? (i := 2) rfl) ?_
  refine uu_icmp_ge (tgt := 84) dX12_part_57 (by decide) (fun c1 => ?_) (fun c1 => ?_)
  · replace h := uu_pos c1 h
    refine uu_aload_n dX12_part_84 rfl (List.mem_of_getElem? (i := 0) rfl) ?_
    refine uu_iload_n dX12_part_85 rfl (List.mem_of_getElem? (i := 2) rfl) ?_
    refine uu_puti (ft := .int) (ci := 12) (N := 153) fX12_110 ptX12 (Or.inl rfl) (by decide) so_1079.is (by decide) (by decide) (by decide +kernel) rfl rfl dX12_part_86 ?_
    have hr := Option.some.inj h
    subst hr
    exact uu_vret rfl dX12_part_89
  · replace h := uu_neg c1 h
    refine uu_aload_n dX12_part_60 rfl (List.mem_of_getElem? (i := 0) rfl) ?_
    refine uu_geta (ci := 12) (N := 153) fX12_116 (by decide) so_1079.is (by decide) (c := 1093) (by decide) dX12_part_61 ?_
    refine uu_iload dX12_part_64 (List.mem_of_getElem? (i := 3) rfl) ?_
    refine uu_aload_n dX12_part_66 rfl (List.mem_of_getElem? (i := 0) rfl) ?_
    refine uu_geta (ci := 12) (N := 153) fX12_116 (by decide) so_1079.is (by decide) (c := 1093) (by decide) dX12_part_67 ?_
    refine uu_iload_n dX12_part_70 rfl (List.mem_of_getElem? (i := 1) rfl) ?_
    refine uu_iconst (v := 1) dX12_part_71 (by decide) ?_
    refine uu_iadd dX12_part_72 ?_
    refine uu_iload dX12_part_73 (List.mem_of_getElem? (i := 3) rfl) ?_
    refine uu_iadd dX12_part_75 ?_
    obtain ⟨v2, e3, h⟩ := uu_ob h
    refine uu_iald e3 dX12_part_76 ?_
    obtain ⟨s4, e5, h⟩ := uu_ob h
    refine uu_iast e5 dX12_part_77 ?_
    refine uu_iinc (v := x4 + 1) dX12_part_78 (k := 3) rfl rfl (by decide) rfl ?_
    refine uu_goto (tgt := 54) dX12_part_81 (by decide) ?_
    refine uu_lv [1, 2, 3, 0] (lv' := [(0, .ref (B + 1079)), (2, .int x2), (3, .int x3), (4, .int (x4 + 1))]) rfl ?_
    exact hK54 x2 x3 (x4 + 1) _ _ h
def fn_X12_part_54  : Nat → Int32 → Int32 → Int32 → uS → Option uS
  | 0 => fun _ _ _ _ => none
  | n + 1 => fb_X12_part_54 (fn_X12_part_54  n)
set_option maxRecDepth 100000 in
set_option maxHeartbeats 4000000 in
theorem xn_X12_part_54 {l : Launch} {D : va_G} {A : Nat → ClassId} {B : Nat} {Z : State → Heap → Prop} {vF : Value} (uk : uK B Z vF)   : ∀ (n : Nat) (x2 : Int32) (x3 : Int32) (x4 : Int32)  (s : uS) (r : uS), fn_X12_part_54  n x2 x3 x4 s = some r → GU l D A B Z mX12_part 0 (r, none) s 54 [(0, .ref (B + 1079)), (2, .int x2), (3, .int x3), (4, .int x4)] [] := by
  intro n
  induction n with
  | zero => intro x2 x3 x4 s r h
            cases h
  | succ n ih => intro x2 x3 x4 s r h
                 exact xb_X12_part_54 uk ih  h
def fn_X12_part (x1 : Int32) (x2 : Int32) (s : uS) : Option uS := (iget 20 s 1112 x1).bind fun v1 => if v1 = 0 then (some s) else ((iget 20 s 1112 x1).bind fun v4 => if v4 = 1 then (if 0 ≤ x2 then (some (wI s 1079 21 x2)) else (some (wI s 1079 21 0))) else (if 0 ≤ x2 then (fn_X12_part_54 uFu x2 (((s.I 1079 21) - x2) - 1) 0 s) else (fn_X12_part_54 uFu x2 0 0 s)))
set_option maxRecDepth 100000 in
set_option maxHeartbeats 4000000 in
theorem xc_X12_part {l : Launch} {D : va_G} {A : Nat → ClassId} {B : Nat} {Z : State → Heap → Prop} {vF : Value} (uk : uK B Z vF) {x1 : Int32} {x2 : Int32} {s : uS} {r : uS}  (h : fn_X12_part x1 x2 s = some r) : CU l D A B Z 0 mX12_part s [.ref (B + 1079), .int x1, .int x2] (r, none) := by
  unfold fn_X12_part at h
  refine cu_of rfl uk.1.1 (Nat.le_of_ble_eq_true rfl) ?_
  show GU _ _ _ _ _ _ _ _ _ 0 [(0, .ref (B + 1079)), (1, .int x1), (2, .int x2)] []
  refine uu_aload_n dX12_part_0 rfl (List.mem_of_getElem? (i := 0) rfl) ?_
  refine uu_geta (ci := 12) (N := 153) fX12_319 (by decide) so_1079.is (by decide) (c := 1112) (by decide) dX12_part_1 ?_
  refine uu_iload_n dX12_part_4 rfl (List.mem_of_getElem? (i := 1) rfl) ?_
  obtain ⟨v1, e2, h⟩ := uu_ob h
  refine uu_iald e2 dX12_part_5 ?_
  refine uu_if_ne (tgt := 10) dX12_part_6 (by decide) (fun c3 => ?_) (fun c3 => ?_)
  · replace h := uu_neg c3 h
    refine uu_aload_n dX12_part_10 rfl (List.mem_of_getElem? (i := 0) rfl) ?_
    refine uu_geta (ci := 12) (N := 153) fX12_319 (by decide) so_1079.is (by decide) (c := 1112) (by decide) dX12_part_11 ?_
    refine uu_iload_n dX12_part_14 rfl (List.mem_of_getElem? (i := 1) rfl) ?_
    obtain ⟨v4, e5, h⟩ := uu_ob h
    refine uu_iald e5 dX12_part_15 ?_
    refine uu_iconst (v := 1) dX12_part_16 (by decide) ?_
    refine uu_icmp_ne (tgt := 34) dX12_part_17 (by decide) (fun c6 => ?_) (fun c6 => ?_)
    · replace h := uu_neg c6 h
      refine uu_iload_n dX12_part_34 rfl (List.mem_of_getElem? (i := 2) rfl) ?_
      refine uu_if_ge (tgt := 42) dX12_part_35 (by decide) (fun c7 => ?_) (fun c7 => ?_)
      · replace h := uu_pos c7 h
        refine uu_aload_n dX12_part_42 rfl (List.mem_of_getElem? (i := 0) rfl) ?_
        refine uu_geti (ci := 12) (N := 153) fX12_110 (by decide) so_1079.is (by decide) (by decide) dX12_part_43 ?_
        refine uu_iload_n dX12_part_46 rfl (List.mem_of_getElem? (i := 2) rfl) ?_
        refine uu_isub dX12_part_47 ?_
        refine uu_iconst (v := 1) dX12_part_48 (by decide) ?_
        refine uu_isub dX12_part_49 ?_
        refine uu_istore_n dX12_part_50 rfl (by decide) rfl ?_
        refine uu_iconst (v := 0) dX12_part_51 (by decide) ?_
        refine uu_istore dX12_part_52 (by decide) rfl ?_
        refine uu_lv [2, 4, 1, 0] (lv' := [(0, .ref (B + 1079)), (2, .int x2), (3, .int (((s.I 1079 21) - x2) - 1)), (4, .int 0)]) rfl ?_
        exact xn_X12_part_54 uk  _ _ _ _ _ _ h
      · replace h := uu_neg c7 h
        refine uu_iconst (v := 0) dX12_part_38 (by decide) ?_
        refine uu_goto (tgt := 50) dX12_part_39 (by decide) ?_
        refine uu_istore_n dX12_part_50 rfl (by decide) rfl ?_
        refine uu_iconst (v := 0) dX12_part_51 (by decide) ?_
        refine uu_istore dX12_part_52 (by decide) rfl ?_
        refine uu_lv [2, 4, 1, 0] (lv' := [(0, .ref (B + 1079)), (2, .int x2), (3, .int 0), (4, .int 0)]) rfl ?_
        exact xn_X12_part_54 uk  _ _ _ _ _ _ h
    · replace h := uu_pos c6 h
      refine uu_aload_n dX12_part_20 rfl (List.mem_of_getElem? (i := 0) rfl) ?_
      refine uu_iload_n dX12_part_21 rfl (List.mem_of_getElem? (i := 2) rfl) ?_
      refine uu_if_ge (tgt := 29) dX12_part_22 (by decide) (fun c8 => ?_) (fun c8 => ?_)
      · replace h := uu_pos c8 h
        refine uu_iload_n dX12_part_29 rfl (List.mem_of_getElem? (i := 2) rfl) ?_
        refine uu_puti (ft := .int) (ci := 12) (N := 153) fX12_110 ptX12 (Or.inl rfl) (by decide) so_1079.is (by decide) (by decide) (by decide +kernel) rfl rfl dX12_part_30 ?_
        have hr := Option.some.inj h
        subst hr
        exact uu_vret rfl dX12_part_33
      · replace h := uu_neg c8 h
        refine uu_iconst (v := 0) dX12_part_25 (by decide) ?_
        refine uu_goto (tgt := 30) dX12_part_26 (by decide) ?_
        refine uu_puti (ft := .int) (ci := 12) (N := 153) fX12_110 ptX12 (Or.inl rfl) (by decide) so_1079.is (by decide) (by decide) (by decide +kernel) rfl rfl dX12_part_30 ?_
        have hr := Option.some.inj h
        subst hr
        exact uu_vret rfl dX12_part_33
  · replace h := uu_pos c3 h
    have hr := Option.some.inj h
    subst hr
    exact uu_vret rfl dX12_part_9
abbrev mX12_isNamed : hM := (yX12_isNamed, cX12_isNamed, 5, (some (.boolean)))
theorem dX12_isNamed_24 : decode cX12_isNamed 24 = .ok (.iload 4, 2) := by decide +kernel
theorem dX12_isNamed_26 : decode cX12_isNamed 26 = .ok (.aload_n 0, 1) := by decide +kernel
theorem dX12_isNamed_27 : decode cX12_isNamed 27 = .ok (.getfield 88, 3) := by decide +kernel
theorem dX12_isNamed_30 : decode cX12_isNamed 30 = .ok (.iload_n 1, 1) := by decide +kernel
theorem dX12_isNamed_31 : decode cX12_isNamed 31 = .ok (.iaload, 1) := by decide +kernel
theorem dX12_isNamed_32 : decode cX12_isNamed 32 = .ok (.if_icmp .ge 56, 3) := by decide +kernel
theorem dX12_isNamed_88 : decode cX12_isNamed 88 = .ok (.iload_n 3, 1) := by decide +kernel
theorem dX12_isNamed_89 : decode cX12_isNamed 89 = .ok (.ireturn, 1) := by decide +kernel
theorem dX12_isNamed_35 : decode cX12_isNamed 35 = .ok (.iload_n 3, 1) := by decide +kernel
theorem dX12_isNamed_36 : decode cX12_isNamed 36 = .ok (.ifCond .eq 52, 3) := by decide +kernel
theorem dX12_isNamed_39 : decode cX12_isNamed 39 = .ok (.aload_n 0, 1) := by decide +kernel
theorem dX12_isNamed_40 : decode cX12_isNamed 40 = .ok (.getfield 78, 3) := by decide +kernel
theorem dX12_isNamed_43 : decode cX12_isNamed 43 = .ok (.aload_n 0, 1) := by decide +kernel
theorem dX12_isNamed_44 : decode cX12_isNamed 44 = .ok (.getfield 82, 3) := by decide +kernel
theorem dX12_isNamed_47 : decode cX12_isNamed 47 = .ok (.iload_n 1, 1) := by decide +kernel
theorem dX12_isNamed_48 : decode cX12_isNamed 48 = .ok (.iaload, 1) := by decide +kernel
theorem dX12_isNamed_49 : decode cX12_isNamed 49 = .ok (.iload 4, 2) := by decide +kernel
theorem dX12_isNamed_51 : decode cX12_isNamed 51 = .ok (.iadd, 1) := by decide +kernel
theorem dX12_isNamed_52 : decode cX12_isNamed 52 = .ok (.iaload, 1) := by decide +kernel
theorem dX12_isNamed_53 : decode cX12_isNamed 53 = .ok (.invokestatic 119, 3) := by decide +kernel
theorem dX12_isNamed_56 : decode cX12_isNamed 56 = .ok (.aload_n 0, 1) := by decide +kernel
theorem dX12_isNamed_57 : decode cX12_isNamed 57 = .ok (.getfield 260, 3) := by decide +kernel
theorem dX12_isNamed_60 : decode cX12_isNamed 60 = .ok (.aload_n 0, 1) := by decide +kernel
theorem dX12_isNamed_61 : decode cX12_isNamed 61 = .ok (.getfield 343, 3) := by decide +kernel
theorem dX12_isNamed_64 : decode cX12_isNamed 64 = .ok (.iload_n 2, 1) := by decide +kernel
theorem dX12_isNamed_65 : decode cX12_isNamed 65 = .ok (.iaload, 1) := by decide +kernel
theorem dX12_isNamed_66 : decode cX12_isNamed 66 = .ok (.iload 4, 2) := by decide +kernel
theorem dX12_isNamed_68 : decode cX12_isNamed 68 = .ok (.iadd, 1) := by decide +kernel
theorem dX12_isNamed_69 : decode cX12_isNamed 69 = .ok (.iaload, 1) := by decide +kernel
theorem dX12_isNamed_70 : decode cX12_isNamed 70 = .ok (.invokestatic 119, 3) := by decide +kernel
theorem dX12_isNamed_73 : decode cX12_isNamed 73 = .ok (.if_icmp .ne 7, 3) := by decide +kernel
theorem dX12_isNamed_80 : decode cX12_isNamed 80 = .ok (.iconst 0, 1) := by decide +kernel
theorem dX12_isNamed_81 : decode cX12_isNamed 81 = .ok (.istore_n 3, 1) := by decide +kernel
theorem dX12_isNamed_82 : decode cX12_isNamed 82 = .ok (.iinc 4 1, 3) := by decide +kernel
theorem dX12_isNamed_85 : decode cX12_isNamed 85 = .ok (.goto (-61), 3) := by decide +kernel
theorem dX12_isNamed_76 : decode cX12_isNamed 76 = .ok (.iconst 1, 1) := by decide +kernel
theorem dX12_isNamed_77 : decode cX12_isNamed 77 = .ok (.goto 4, 3) := by decide +kernel
theorem dX12_isNamed_0 : decode cX12_isNamed 0 = .ok (.aload_n 0, 1) := by decide +kernel
theorem dX12_isNamed_1 : decode cX12_isNamed 1 = .ok (.getfield 88, 3) := by decide +kernel
theorem dX12_isNamed_4 : decode cX12_isNamed 4 = .ok (.iload_n 1, 1) := by decide +kernel
theorem dX12_isNamed_5 : decode cX12_isNamed 5 = .ok (.iaload, 1) := by decide +kernel
theorem dX12_isNamed_6 : decode cX12_isNamed 6 = .ok (.aload_n 0, 1) := by decide +kernel
theorem dX12_isNamed_7 : decode cX12_isNamed 7 = .ok (.getfield 346, 3) := by decide +kernel
theorem dX12_isNamed_10 : decode cX12_isNamed 10 = .ok (.iload_n 2, 1) := by decide +kernel
theorem dX12_isNamed_11 : decode cX12_isNamed 11 = .ok (.iaload, 1) := by decide +kernel
theorem dX12_isNamed_12 : decode cX12_isNamed 12 = .ok (.if_icmp .ne 7, 3) := by decide +kernel
theorem dX12_isNamed_19 : decode cX12_isNamed 19 = .ok (.iconst 0, 1) := by decide +kernel
theorem dX12_isNamed_20 : decode cX12_isNamed 20 = .ok (.istore_n 3, 1) := by decide +kernel
theorem dX12_isNamed_21 : decode cX12_isNamed 21 = .ok (.iconst 0, 1) := by decide +kernel
theorem dX12_isNamed_22 : decode cX12_isNamed 22 = .ok (.istore 4, 2) := by decide +kernel
theorem dX12_isNamed_15 : decode cX12_isNamed 15 = .ok (.iconst 1, 1) := by decide +kernel
theorem dX12_isNamed_16 : decode cX12_isNamed 16 = .ok (.goto 4, 3) := by decide +kernel
def fb_X12_isNamed_24 (K24 : Int32 → Int32 → Bool → Int32 → uS → Option Bool) (x1 : Int32) (x2 : Int32) (b3 : Bool) (x4 : Int32) (s : uS) : Option Bool := (iget 20 s 1089 x1).bind fun v1 => if v1 ≤ x4 then (some b3) else (if b3 = true then ((iget 20 s 1088 x1).bind fun v5 => (iget 20 s 1087 (v5 + x4)).bind fun v7 => (fn_X12_low v7 s).bind fun v9 => (iget 20 s 1116 x2).bind fun v11 => (iget 20 s 1097 (v11 + x4)).bind fun v13 => (fn_X12_low v13 s).bind fun v15 => if v9 = v15 then (K24 x1 x2 true (x4 + 1) s) else (K24 x1 x2 false (x4 + 1) s)) else (some b3))
set_option maxRecDepth 100000 in
set_option maxHeartbeats 4000000 in
theorem xb_X12_isNamed_24 {l : Launch} {D : va_G} {A : Nat → ClassId} {B : Nat} {Z : State → Heap → Prop} {vF : Value} (uk : uK B Z vF) {K24 : Int32 → Int32 → Bool → Int32 → uS → Option Bool} (hK24 : ∀ (x1 : Int32) (x2 : Int32) (b3 : Bool) (x4 : Int32)  (s : uS) (r : Bool), K24 x1 x2 b3 x4 s = some r → GU l D A B Z mX12_isNamed 1 (s, some (.int (bI r))) s 24 [(0, .ref (B + 1079)), (1, .int x1), (2, .int x2), (3, .int (bI b3)), (4, .int x4)] []) {x1 : Int32} {x2 : Int32} {b3 : Bool} {x4 : Int32} {s : uS} {r : Bool}  (h : fb_X12_isNamed_24 K24 x1 x2 b3 x4 s = some r) : GU l D A B Z mX12_isNamed 1 (s, some (.int (bI r))) s 24 [(0, .ref (B + 1079)), (1, .int x1), (2, .int x2), (3, .int (bI b3)), (4, .int x4)] [] := by
  unfold fb_X12_isNamed_24 at h
  refine uu_iload dX12_isNamed_24 (List.mem_of_getElem? (i := 4) rfl) ?_
  refine uu_aload_n dX12_isNamed_26 rfl (List.mem_of_getElem? (i := 0) rfl) ?_
  refine uu_geta (ci := 12) (N := 153) fX12_88 (by decide) so_1079.is (by decide) (c := 1089) (by decide) dX12_isNamed_27 ?_
  refine uu_iload_n dX12_isNamed_30 rfl (List.mem_of_getElem? (i := 1) rfl) ?_
  obtain ⟨v1, e2, h⟩ := uu_ob h
  refine uu_iald e2 dX12_isNamed_31 ?_
  refine uu_icmp_ge (tgt := 88) dX12_isNamed_32 (by decide) (fun c3 => ?_) (fun c3 => ?_)
  · replace h := uu_pos c3 h
    refine uu_iload_n dX12_isNamed_88 rfl (List.mem_of_getElem? (i := 3) rfl) ?_
    have hr := Option.some.inj h
    subst hr
    exact uu_zret (x := bI b3) rfl (bI_z _) dX12_isNamed_89
  · replace h := uu_neg c3 h
    refine uu_iload_n dX12_isNamed_35 rfl (List.mem_of_getElem? (i := 3) rfl) ?_
    refine uu_ifb_eq (tgt := 88) dX12_isNamed_36 (by decide) (fun c4 => ?_) (fun c4 => ?_)
    · replace h := uu_neg c4 h
      refine uu_iload_n dX12_isNamed_88 rfl (List.mem_of_getElem? (i := 3) rfl) ?_
      have hr := Option.some.inj h
      subst hr
      exact uu_zret (x := bI b3) rfl (bI_z _) dX12_isNamed_89
    · replace h := uu_pos c4 h
      refine uu_aload_n dX12_isNamed_39 rfl (List.mem_of_getElem? (i := 0) rfl) ?_
      refine uu_geta (ci := 12) (N := 153) fX12_78 (by decide) so_1079.is (by decide) (c := 1087) (by decide) dX12_isNamed_40 ?_
      refine uu_aload_n dX12_isNamed_43 rfl (List.mem_of_getElem? (i := 0) rfl) ?_
      refine uu_geta (ci := 12) (N := 153) fX12_82 (by decide) so_1079.is (by decide) (c := 1088) (by decide) dX12_isNamed_44 ?_
      refine uu_iload_n dX12_isNamed_47 rfl (List.mem_of_getElem? (i := 1) rfl) ?_
      obtain ⟨v5, e6, h⟩ := uu_ob h
      refine uu_iald e6 dX12_isNamed_48 ?_
      refine uu_iload dX12_isNamed_49 (List.mem_of_getElem? (i := 4) rfl) ?_
      refine uu_iadd dX12_isNamed_51 ?_
      obtain ⟨v7, e8, h⟩ := uu_ob h
      refine uu_iald e8 dX12_isNamed_52 ?_
      obtain ⟨v9, e10, h⟩ := uu_ob h
      refine uu_cs (d1 := 0) (As := [.int v7]) (st := []) (st' := [.int v9]) (xc_X12_low uk  e10) kX12_low lX12_119 sX12_low (by decide) (Nat.le_of_ble_eq_true rfl) dX12_isNamed_53 rfl ?_
      refine uu_aload_n dX12_isNamed_56 rfl (List.mem_of_getElem? (i := 0) rfl) ?_
      refine uu_geta (ci := 12) (N := 153) fX12_260 (by decide) so_1079.is (by decide) (c := 1097) (by decide) dX12_isNamed_57 ?_
      refine uu_aload_n dX12_isNamed_60 rfl (List.mem_of_getElem? (i := 0) rfl) ?_
      refine uu_geta (ci := 12) (N := 153) fX12_343 (by decide) so_1079.is (by decide) (c := 1116) (by decide) dX12_isNamed_61 ?_
      refine uu_iload_n dX12_isNamed_64 rfl (List.mem_of_getElem? (i := 2) rfl) ?_
      obtain ⟨v11, e12, h⟩ := uu_ob h
      refine uu_iald e12 dX12_isNamed_65 ?_
      refine uu_iload dX12_isNamed_66 (List.mem_of_getElem? (i := 4) rfl) ?_
      refine uu_iadd dX12_isNamed_68 ?_
      obtain ⟨v13, e14, h⟩ := uu_ob h
      refine uu_iald e14 dX12_isNamed_69 ?_
      obtain ⟨v15, e16, h⟩ := uu_ob h
      refine uu_cs (d1 := 0) (As := [.int v13]) (st := [.int v9]) (st' := [.int v15, .int v9]) (xc_X12_low uk  e16) kX12_low lX12_119 sX12_low (by decide) (Nat.le_of_ble_eq_true rfl) dX12_isNamed_70 rfl ?_
      refine uu_icmp_ne (tgt := 80) dX12_isNamed_73 (by decide) (fun c17 => ?_) (fun c17 => ?_)
      · replace h := uu_neg c17 h
        refine uu_iconst (v := 0) dX12_isNamed_80 (by decide) ?_
        refine uu_istore_n dX12_isNamed_81 rfl (by decide) rfl ?_
        refine uu_iinc (v := x4 + 1) dX12_isNamed_82 (k := 4) rfl rfl (by decide) rfl ?_
        refine uu_goto (tgt := 24) dX12_isNamed_85 (by decide) ?_
        refine uu_lv [2, 3, 4, 1, 0] (lv' := [(0, .ref (B + 1079)), (1, .int x1), (2, .int x2), (3, .int 0), (4, .int (x4 + 1))]) rfl ?_
        exact hK24 x1 x2 false (x4 + 1) _ _ h
      · replace h := uu_pos c17 h
        refine uu_iconst (v := 1) dX12_isNamed_76 (by decide) ?_
        refine uu_goto (tgt := 81) dX12_isNamed_77 (by decide) ?_
        refine uu_istore_n dX12_isNamed_81 rfl (by decide) rfl ?_
        refine uu_iinc (v := x4 + 1) dX12_isNamed_82 (k := 4) rfl rfl (by decide) rfl ?_
        refine uu_goto (tgt := 24) dX12_isNamed_85 (by decide) ?_
        refine uu_lv [2, 3, 4, 1, 0] (lv' := [(0, .ref (B + 1079)), (1, .int x1), (2, .int x2), (3, .int 1), (4, .int (x4 + 1))]) rfl ?_
        exact hK24 x1 x2 true (x4 + 1) _ _ h
def fn_X12_isNamed_24  : Nat → Int32 → Int32 → Bool → Int32 → uS → Option Bool
  | 0 => fun _ _ _ _ _ => none
  | n + 1 => fb_X12_isNamed_24 (fn_X12_isNamed_24  n)
set_option maxRecDepth 100000 in
set_option maxHeartbeats 4000000 in
theorem xn_X12_isNamed_24 {l : Launch} {D : va_G} {A : Nat → ClassId} {B : Nat} {Z : State → Heap → Prop} {vF : Value} (uk : uK B Z vF)   : ∀ (n : Nat) (x1 : Int32) (x2 : Int32) (b3 : Bool) (x4 : Int32)  (s : uS) (r : Bool), fn_X12_isNamed_24  n x1 x2 b3 x4 s = some r → GU l D A B Z mX12_isNamed 1 (s, some (.int (bI r))) s 24 [(0, .ref (B + 1079)), (1, .int x1), (2, .int x2), (3, .int (bI b3)), (4, .int x4)] [] := by
  intro n
  induction n with
  | zero => intro x1 x2 b3 x4 s r h
            cases h
  | succ n ih => intro x1 x2 b3 x4 s r h
                 exact xb_X12_isNamed_24 uk ih  h
def fn_X12_isNamed (x1 : Int32) (x2 : Int32) (s : uS) : Option Bool := (iget 20 s 1089 x1).bind fun v1 => (iget 20 s 1117 x2).bind fun v3 => if v1 = v3 then (fn_X12_isNamed_24 uFu x1 x2 true 0 s) else (fn_X12_isNamed_24 uFu x1 x2 false 0 s)
set_option maxRecDepth 100000 in
set_option maxHeartbeats 4000000 in
theorem xc_X12_isNamed {l : Launch} {D : va_G} {A : Nat → ClassId} {B : Nat} {Z : State → Heap → Prop} {vF : Value} (uk : uK B Z vF) {x1 : Int32} {x2 : Int32} {s : uS} {r : Bool}  (h : fn_X12_isNamed x1 x2 s = some r) : CU l D A B Z 1 mX12_isNamed s [.ref (B + 1079), .int x1, .int x2] (s, some (.int (bI r))) := by
  unfold fn_X12_isNamed at h
  refine cu_of rfl uk.1.1 (Nat.le_of_ble_eq_true rfl) ?_
  show GU _ _ _ _ _ _ _ _ _ 0 [(0, .ref (B + 1079)), (1, .int x1), (2, .int x2)] []
  refine uu_aload_n dX12_isNamed_0 rfl (List.mem_of_getElem? (i := 0) rfl) ?_
  refine uu_geta (ci := 12) (N := 153) fX12_88 (by decide) so_1079.is (by decide) (c := 1089) (by decide) dX12_isNamed_1 ?_
  refine uu_iload_n dX12_isNamed_4 rfl (List.mem_of_getElem? (i := 1) rfl) ?_
  obtain ⟨v1, e2, h⟩ := uu_ob h
  refine uu_iald e2 dX12_isNamed_5 ?_
  refine uu_aload_n dX12_isNamed_6 rfl (List.mem_of_getElem? (i := 0) rfl) ?_
  refine uu_geta (ci := 12) (N := 153) fX12_346 (by decide) so_1079.is (by decide) (c := 1117) (by decide) dX12_isNamed_7 ?_
  refine uu_iload_n dX12_isNamed_10 rfl (List.mem_of_getElem? (i := 2) rfl) ?_
  obtain ⟨v3, e4, h⟩ := uu_ob h
  refine uu_iald e4 dX12_isNamed_11 ?_
  refine uu_icmp_ne (tgt := 19) dX12_isNamed_12 (by decide) (fun c5 => ?_) (fun c5 => ?_)
  · replace h := uu_neg c5 h
    refine uu_iconst (v := 0) dX12_isNamed_19 (by decide) ?_
    refine uu_istore_n dX12_isNamed_20 rfl (by decide) rfl ?_
    refine uu_iconst (v := 0) dX12_isNamed_21 (by decide) ?_
    refine uu_istore dX12_isNamed_22 (by decide) rfl ?_
    refine uu_lv [2, 3, 4, 1, 0] (lv' := [(0, .ref (B + 1079)), (1, .int x1), (2, .int x2), (3, .int 0), (4, .int 0)]) rfl ?_
    exact xn_X12_isNamed_24 uk  _ _ _ _ _ _ _ h
  · replace h := uu_pos c5 h
    refine uu_iconst (v := 1) dX12_isNamed_15 (by decide) ?_
    refine uu_goto (tgt := 20) dX12_isNamed_16 (by decide) ?_
    refine uu_istore_n dX12_isNamed_20 rfl (by decide) rfl ?_
    refine uu_iconst (v := 0) dX12_isNamed_21 (by decide) ?_
    refine uu_istore dX12_isNamed_22 (by decide) rfl ?_
    refine uu_lv [2, 3, 4, 1, 0] (lv' := [(0, .ref (B + 1079)), (1, .int x1), (2, .int x2), (3, .int 1), (4, .int 0)]) rfl ?_
    exact xn_X12_isNamed_24 uk  _ _ _ _ _ _ _ h
abbrev mX12_isAmong : hM := (yX12_isAmong, cX12_isAmong, 5, (some (.boolean)))
theorem dX12_isAmong_5 : decode cX12_isAmong 5 = .ok (.iload 4, 2) := by decide +kernel
theorem dX12_isAmong_7 : decode cX12_isAmong 7 = .ok (.aload_n 0, 1) := by decide +kernel
theorem dX12_isAmong_8 : decode cX12_isAmong 8 = .ok (.getfield 297, 3) := by decide +kernel
theorem dX12_isAmong_11 : decode cX12_isAmong 11 = .ok (.iload_n 1, 1) := by decide +kernel
theorem dX12_isAmong_12 : decode cX12_isAmong 12 = .ok (.iaload, 1) := by decide +kernel
theorem dX12_isAmong_13 : decode cX12_isAmong 13 = .ok (.if_icmp .ge 36, 3) := by decide +kernel
theorem dX12_isAmong_49 : decode cX12_isAmong 49 = .ok (.iload_n 3, 1) := by decide +kernel
theorem dX12_isAmong_50 : decode cX12_isAmong 50 = .ok (.ireturn, 1) := by decide +kernel
theorem dX12_isAmong_16 : decode cX12_isAmong 16 = .ok (.iload_n 3, 1) := by decide +kernel
theorem dX12_isAmong_17 : decode cX12_isAmong 17 = .ok (.ifCond .ne 20, 3) := by decide +kernel
theorem dX12_isAmong_37 : decode cX12_isAmong 37 = .ok (.iconst 1, 1) := by decide +kernel
theorem dX12_isAmong_38 : decode cX12_isAmong 38 = .ok (.goto 4, 3) := by decide +kernel
theorem dX12_isAmong_42 : decode cX12_isAmong 42 = .ok (.istore_n 3, 1) := by decide +kernel
theorem dX12_isAmong_43 : decode cX12_isAmong 43 = .ok (.iinc 4 1, 3) := by decide +kernel
theorem dX12_isAmong_46 : decode cX12_isAmong 46 = .ok (.goto (-41), 3) := by decide +kernel
theorem dX12_isAmong_20 : decode cX12_isAmong 20 = .ok (.aload_n 0, 1) := by decide +kernel
theorem dX12_isAmong_21 : decode cX12_isAmong 21 = .ok (.iload_n 2, 1) := by decide +kernel
theorem dX12_isAmong_22 : decode cX12_isAmong 22 = .ok (.aload_n 0, 1) := by decide +kernel
theorem dX12_isAmong_23 : decode cX12_isAmong 23 = .ok (.getfield 439, 3) := by decide +kernel
theorem dX12_isAmong_26 : decode cX12_isAmong 26 = .ok (.iload_n 1, 1) := by decide +kernel
theorem dX12_isAmong_27 : decode cX12_isAmong 27 = .ok (.iaload, 1) := by decide +kernel
theorem dX12_isAmong_28 : decode cX12_isAmong 28 = .ok (.iload 4, 2) := by decide +kernel
theorem dX12_isAmong_30 : decode cX12_isAmong 30 = .ok (.iadd, 1) := by decide +kernel
theorem kX12_isNamed : h_ml mX12_isNamed 2 := ⟨h_t9 102 rfl rfl, h_t1 16 rfl rfl, ⟨by decide, by decide, by decide +kernel⟩, by decide⟩
theorem lX12_655 : Cond.methodLink RX12 655 mX12_isNamed.1 ∈ lw_g := h_t9 99 rfl rfl
theorem sX12_isNamed : Cond.instanceMethod mX12_isNamed.1 ∈ lw_g ∧ Cond.selects mX12_isNamed.1.cls mX12_isNamed.1 mX12_isNamed.1 ∈ lw_g := ⟨h_t9 101 rfl rfl, h_ins 169 rfl⟩
theorem dX12_isAmong_31 : decode cX12_isAmong 31 = .ok (.invokevirtual 655, 3) := by decide +kernel
theorem dX12_isAmong_34 : decode cX12_isAmong 34 = .ok (.ifCond .eq 7, 3) := by decide +kernel
theorem dX12_isAmong_41 : decode cX12_isAmong 41 = .ok (.iconst 0, 1) := by decide +kernel
theorem dX12_isAmong_0 : decode cX12_isAmong 0 = .ok (.iconst 0, 1) := by decide +kernel
theorem dX12_isAmong_1 : decode cX12_isAmong 1 = .ok (.istore_n 3, 1) := by decide +kernel
theorem dX12_isAmong_2 : decode cX12_isAmong 2 = .ok (.iconst 0, 1) := by decide +kernel
theorem dX12_isAmong_3 : decode cX12_isAmong 3 = .ok (.istore 4, 2) := by decide +kernel
def fb_X12_isAmong_5 (K5 : Int32 → Int32 → Bool → Int32 → uS → Option Bool) (x1 : Int32) (x2 : Int32) (b3 : Bool) (x4 : Int32) (s : uS) : Option Bool := (iget 20 s 1103 x1).bind fun v1 => if v1 ≤ x4 then (some b3) else (if b3 = true then (K5 x1 x2 true (x4 + 1) s) else ((iget 20 s 1102 x1).bind fun v5 => (fn_X12_isNamed x2 (v5 + x4) s).bind fun v7 => if v7 = true then (K5 x1 x2 true (x4 + 1) s) else (K5 x1 x2 false (x4 + 1) s)))
set_option maxRecDepth 100000 in
set_option maxHeartbeats 4000000 in
theorem xb_X12_isAmong_5 {l : Launch} {D : va_G} {A : Nat → ClassId} {B : Nat} {Z : State → Heap → Prop} {vF : Value} (uk : uK B Z vF) {K5 : Int32 → Int32 → Bool → Int32 → uS → Option Bool} (hK5 : ∀ (x1 : Int32) (x2 : Int32) (b3 : Bool) (x4 : Int32)  (s : uS) (r : Bool), K5 x1 x2 b3 x4 s = some r → GU l D A B Z mX12_isAmong 2 (s, some (.int (bI r))) s 5 [(0, .ref (B + 1079)), (1, .int x1), (2, .int x2), (3, .int (bI b3)), (4, .int x4)] []) {x1 : Int32} {x2 : Int32} {b3 : Bool} {x4 : Int32} {s : uS} {r : Bool}  (h : fb_X12_isAmong_5 K5 x1 x2 b3 x4 s = some r) : GU l D A B Z mX12_isAmong 2 (s, some (.int (bI r))) s 5 [(0, .ref (B + 1079)), (1, .int x1), (2, .int x2), (3, .int (bI b3)), (4, .int x4)] [] := by
  unfold fb_X12_isAmong_5 at h
  refine uu_iload dX12_isAmong_5 (List.mem_of_getElem? (i := 4) rfl) ?_
  refine uu_aload_n dX12_isAmong_7 rfl (List.mem_of_getElem? (i := 0) rfl) ?_
  refine uu_geta (ci := 12) (N := 153) fX12_297 (by decide) so_1079.is (by decide) (c := 1103) (by decide) dX12_isAmong_8 ?_
  refine uu_iload_n dX12_isAmong_11 rfl (List.mem_of_getElem? (i := 1) rfl) ?_
  obtain ⟨v1, e2, h⟩ := uu_ob h
  refine uu_iald e2 dX12_isAmong_12 ?_
  refine uu_icmp_ge (tgt := 49) dX12_isAmong_13 (by decide) (fun c3 => ?_) (fun c3 => ?_)
  · replace h := uu_pos c3 h
    refine uu_iload_n dX12_isAmong_49 rfl (List.mem_of_getElem? (i := 3) rfl) ?_
    have hr := Option.some.inj h
    subst hr
    exact uu_zret (x := bI b3) rfl (bI_z _) dX12_isAmong_50
  · replace h := uu_neg c3 h
    refine uu_iload_n dX12_isAmong_16 rfl (List.mem_of_getElem? (i := 3) rfl) ?_
    refine uu_ifb_ne (tgt := 37) dX12_isAmong_17 (by decide) (fun c4 => ?_) (fun c4 => ?_)
    · replace h := uu_pos c4 h
      refine uu_iconst (v := 1) dX12_isAmong_37 (by decide) ?_
      refine uu_goto (tgt := 42) dX12_isAmong_38 (by decide) ?_
      refine uu_istore_n dX12_isAmong_42 rfl (by decide) rfl ?_
      refine uu_iinc (v := x4 + 1) dX12_isAmong_43 (k := 4) rfl rfl (by decide) rfl ?_
      refine uu_goto (tgt := 5) dX12_isAmong_46 (by decide) ?_
      refine uu_lv [2, 3, 4, 1, 0] (lv' := [(0, .ref (B + 1079)), (1, .int x1), (2, .int x2), (3, .int 1), (4, .int (x4 + 1))]) rfl ?_
      exact hK5 x1 x2 true (x4 + 1) _ _ h
    · replace h := uu_neg c4 h
      refine uu_aload_n dX12_isAmong_20 rfl (List.mem_of_getElem? (i := 0) rfl) ?_
      refine uu_iload_n dX12_isAmong_21 rfl (List.mem_of_getElem? (i := 2) rfl) ?_
      refine uu_aload_n dX12_isAmong_22 rfl (List.mem_of_getElem? (i := 0) rfl) ?_
      refine uu_geta (ci := 12) (N := 153) fX12_439 (by decide) so_1079.is (by decide) (c := 1102) (by decide) dX12_isAmong_23 ?_
      refine uu_iload_n dX12_isAmong_26 rfl (List.mem_of_getElem? (i := 1) rfl) ?_
      obtain ⟨v5, e6, h⟩ := uu_ob h
      refine uu_iald e6 dX12_isAmong_27 ?_
      refine uu_iload dX12_isAmong_28 (List.mem_of_getElem? (i := 4) rfl) ?_
      refine uu_iadd dX12_isAmong_30 ?_
      obtain ⟨v7, e8, h⟩ := uu_ob h
      refine uu_cv (d1 := 1) (k := 1079) (ci := 12) (T := TX12) (N := 153) (As := [.int x2, .int (v5 + x4)]) (st := []) (st' := [.int (bI v7)]) (xc_X12_isNamed uk  e8) so_1079.is (by decide) rfl kX12_isNamed lX12_655 sX12_isNamed (by decide) (Nat.le_of_ble_eq_true rfl) dX12_isAmong_31 rfl ?_
      refine uu_ifb_eq (tgt := 41) dX12_isAmong_34 (by decide) (fun c9 => ?_) (fun c9 => ?_)
      · replace h := uu_neg c9 h
        refine uu_iconst (v := 0) dX12_isAmong_41 (by decide) ?_
        refine uu_istore_n dX12_isAmong_42 rfl (by decide) rfl ?_
        refine uu_iinc (v := x4 + 1) dX12_isAmong_43 (k := 4) rfl rfl (by decide) rfl ?_
        refine uu_goto (tgt := 5) dX12_isAmong_46 (by decide) ?_
        refine uu_lv [2, 3, 4, 1, 0] (lv' := [(0, .ref (B + 1079)), (1, .int x1), (2, .int x2), (3, .int 0), (4, .int (x4 + 1))]) rfl ?_
        exact hK5 x1 x2 false (x4 + 1) _ _ h
      · replace h := uu_pos c9 h
        refine uu_iconst (v := 1) dX12_isAmong_37 (by decide) ?_
        refine uu_goto (tgt := 42) dX12_isAmong_38 (by decide) ?_
        refine uu_istore_n dX12_isAmong_42 rfl (by decide) rfl ?_
        refine uu_iinc (v := x4 + 1) dX12_isAmong_43 (k := 4) rfl rfl (by decide) rfl ?_
        refine uu_goto (tgt := 5) dX12_isAmong_46 (by decide) ?_
        refine uu_lv [2, 3, 4, 1, 0] (lv' := [(0, .ref (B + 1079)), (1, .int x1), (2, .int x2), (3, .int 1), (4, .int (x4 + 1))]) rfl ?_
        exact hK5 x1 x2 true (x4 + 1) _ _ h
def fn_X12_isAmong_5  : Nat → Int32 → Int32 → Bool → Int32 → uS → Option Bool
  | 0 => fun _ _ _ _ _ => none
  | n + 1 => fb_X12_isAmong_5 (fn_X12_isAmong_5  n)
set_option maxRecDepth 100000 in
set_option maxHeartbeats 4000000 in
theorem xn_X12_isAmong_5 {l : Launch} {D : va_G} {A : Nat → ClassId} {B : Nat} {Z : State → Heap → Prop} {vF : Value} (uk : uK B Z vF)   : ∀ (n : Nat) (x1 : Int32) (x2 : Int32) (b3 : Bool) (x4 : Int32)  (s : uS) (r : Bool), fn_X12_isAmong_5  n x1 x2 b3 x4 s = some r → GU l D A B Z mX12_isAmong 2 (s, some (.int (bI r))) s 5 [(0, .ref (B + 1079)), (1, .int x1), (2, .int x2), (3, .int (bI b3)), (4, .int x4)] [] := by
  intro n
  induction n with
  | zero => intro x1 x2 b3 x4 s r h
            cases h
  | succ n ih => intro x1 x2 b3 x4 s r h
                 exact xb_X12_isAmong_5 uk ih  h
def fn_X12_isAmong (x1 : Int32) (x2 : Int32) (s : uS) : Option Bool := fn_X12_isAmong_5 uFu x1 x2 false 0 s
set_option maxRecDepth 100000 in
set_option maxHeartbeats 4000000 in
theorem xc_X12_isAmong {l : Launch} {D : va_G} {A : Nat → ClassId} {B : Nat} {Z : State → Heap → Prop} {vF : Value} (uk : uK B Z vF) {x1 : Int32} {x2 : Int32} {s : uS} {r : Bool}  (h : fn_X12_isAmong x1 x2 s = some r) : CU l D A B Z 2 mX12_isAmong s [.ref (B + 1079), .int x1, .int x2] (s, some (.int (bI r))) := by
  unfold fn_X12_isAmong at h
  refine cu_of rfl uk.1.1 (Nat.le_of_ble_eq_true rfl) ?_
  show GU _ _ _ _ _ _ _ _ _ 0 [(0, .ref (B + 1079)), (1, .int x1), (2, .int x2)] []
  refine uu_iconst (v := 0) dX12_isAmong_0 (by decide) ?_
  refine uu_istore_n dX12_isAmong_1 rfl (by decide) rfl ?_
  refine uu_iconst (v := 0) dX12_isAmong_2 (by decide) ?_
  refine uu_istore dX12_isAmong_3 (by decide) rfl ?_
  refine uu_lv [2, 3, 4, 1, 0] (lv' := [(0, .ref (B + 1079)), (1, .int x1), (2, .int x2), (3, .int 0), (4, .int 0)]) rfl ?_
  exact xn_X12_isAmong_5 uk  _ _ _ _ _ _ _ h
abbrev mX12_headers : hM := (yX12_headers, cX12_headers, 4, none)
theorem dX12_headers_54 : decode cX12_headers 54 = .ok (.aload_n 0, 1) := by decide +kernel
theorem kX12_nextPart : h_ml mX12_nextPart 0 := ⟨h_t9 163 rfl rfl, h_t1 16 rfl rfl, ⟨by decide, by decide, by decide +kernel⟩, by decide⟩
theorem lX12_672 : Cond.methodLink RX12 672 mX12_nextPart.1 ∈ lw_g := h_t9 160 rfl rfl
theorem sX12_nextPart : Cond.instanceMethod mX12_nextPart.1 ∈ lw_g ∧ Cond.selects mX12_nextPart.1.cls mX12_nextPart.1 mX12_nextPart.1 ∈ lw_g := ⟨h_t9 162 rfl rfl, h_ins 182 rfl⟩
theorem dX12_headers_55 : decode cX12_headers 55 = .ok (.invokevirtual 672, 3) := by decide +kernel
theorem dX12_headers_58 : decode cX12_headers 58 = .ok (.ifCond .eq 29, 3) := by decide +kernel
theorem dX12_headers_87 : decode cX12_headers 87 = .ok (.iinc 2 1, 3) := by decide +kernel
theorem dX12_headers_90 : decode cX12_headers 90 = .ok (.goto (-88), 3) := by decide +kernel
theorem dX12_headers_61 : decode cX12_headers 61 = .ok (.aload_n 0, 1) := by decide +kernel
theorem dX12_headers_62 : decode cX12_headers 62 = .ok (.invokevirtual 469, 3) := by decide +kernel
theorem dX12_headers_65 : decode cX12_headers 65 = .ok (.istore_n 3, 1) := by decide +kernel
theorem dX12_headers_66 : decode cX12_headers 66 = .ok (.iload_n 3, 1) := by decide +kernel
theorem dX12_headers_67 : decode cX12_headers 67 = .ok (.ifCond .ge 6, 3) := by decide +kernel
theorem dX12_headers_73 : decode cX12_headers 73 = .ok (.aload_n 0, 1) := by decide +kernel
theorem dX12_headers_74 : decode cX12_headers 74 = .ok (.iload_n 1, 1) := by decide +kernel
theorem dX12_headers_75 : decode cX12_headers 75 = .ok (.iload_n 3, 1) := by decide +kernel
theorem kX12_part : h_ml mX12_part 2 := ⟨h_t9 174 rfl rfl, h_t1 16 rfl rfl, ⟨by decide, by decide, by decide +kernel⟩, by decide⟩
theorem lX12_675 : Cond.methodLink RX12 675 mX12_part.1 ∈ lw_g := h_t9 171 rfl rfl
theorem sX12_part : Cond.instanceMethod mX12_part.1 ∈ lw_g ∧ Cond.selects mX12_part.1.cls mX12_part.1 mX12_part.1 ∈ lw_g := ⟨h_t9 173 rfl rfl, h_ins 184 rfl⟩
theorem dX12_headers_76 : decode cX12_headers 76 = .ok (.invokevirtual 675, 3) := by decide +kernel
theorem dX12_headers_79 : decode cX12_headers 79 = .ok (.aload_n 0, 1) := by decide +kernel
theorem dX12_headers_80 : decode cX12_headers 80 = .ok (.iload_n 1, 1) := by decide +kernel
theorem kX12_value : h_ml mX12_value 1 := ⟨h_t9 110 rfl rfl, h_t1 16 rfl rfl, ⟨by decide, by decide, by decide +kernel⟩, by decide⟩
theorem lX12_664 : Cond.methodLink RX12 664 mX12_value.1 ∈ lw_g := h_t9 107 rfl rfl
theorem sX12_value : Cond.instanceMethod mX12_value.1 ∈ lw_g ∧ Cond.selects mX12_value.1.cls mX12_value.1 mX12_value.1 ∈ lw_g := ⟨h_t9 109 rfl rfl, h_ins 171 rfl⟩
theorem dX12_headers_81 : decode cX12_headers 81 = .ok (.invokevirtual 664, 3) := by decide +kernel
theorem dX12_headers_84 : decode cX12_headers 84 = .ok (.goto (-30), 3) := by decide +kernel
theorem dX12_headers_70 : decode cX12_headers 70 = .ok (.goto (-16), 3) := by decide +kernel
theorem dX12_headers_2 : decode cX12_headers 2 = .ok (.iload_n 2, 1) := by decide +kernel
theorem dX12_headers_3 : decode cX12_headers 3 = .ok (.aload_n 0, 1) := by decide +kernel
theorem dX12_headers_4 : decode cX12_headers 4 = .ok (.getfield 85, 3) := by decide +kernel
theorem dX12_headers_7 : decode cX12_headers 7 = .ok (.if_icmp .ge 86, 3) := by decide +kernel
theorem dX12_headers_93 : decode cX12_headers 93 = .ok (.return_, 1) := by decide +kernel
theorem dX12_headers_10 : decode cX12_headers 10 = .ok (.aload_n 0, 1) := by decide +kernel
theorem dX12_headers_11 : decode cX12_headers 11 = .ok (.iload_n 1, 1) := by decide +kernel
theorem dX12_headers_12 : decode cX12_headers 12 = .ok (.iload_n 2, 1) := by decide +kernel
theorem kX12_isAmong : h_ml mX12_isAmong 2 := ⟨h_t9 98 rfl rfl, h_t1 16 rfl rfl, ⟨by decide, by decide, by decide +kernel⟩, by decide⟩
theorem lX12_658 : Cond.methodLink RX12 658 mX12_isAmong.1 ∈ lw_g := h_t9 95 rfl rfl
theorem sX12_isAmong : Cond.instanceMethod mX12_isAmong.1 ∈ lw_g ∧ Cond.selects mX12_isAmong.1.cls mX12_isAmong.1 mX12_isAmong.1 ∈ lw_g := ⟨h_t9 97 rfl rfl, h_ins 168 rfl⟩
theorem dX12_headers_13 : decode cX12_headers 13 = .ok (.invokevirtual 658, 3) := by decide +kernel
theorem dX12_headers_16 : decode cX12_headers 16 = .ok (.ifCond .ne 6, 3) := by decide +kernel
theorem dX12_headers_22 : decode cX12_headers 22 = .ok (.aload_n 0, 1) := by decide +kernel
theorem dX12_headers_23 : decode cX12_headers 23 = .ok (.iload_n 2, 1) := by decide +kernel
theorem kX12_oneValue : h_ml mX12_oneValue 1 := ⟨h_t9 106 rfl rfl, h_t1 16 rfl rfl, ⟨by decide, by decide, by decide +kernel⟩, by decide⟩
theorem lX12_661 : Cond.methodLink RX12 661 mX12_oneValue.1 ∈ lw_g := h_t9 103 rfl rfl
theorem sX12_oneValue : Cond.instanceMethod mX12_oneValue.1 ∈ lw_g ∧ Cond.selects mX12_oneValue.1.cls mX12_oneValue.1 mX12_oneValue.1 ∈ lw_g := ⟨h_t9 105 rfl rfl, h_ins 170 rfl⟩
theorem dX12_headers_24 : decode cX12_headers 24 = .ok (.invokevirtual 661, 3) := by decide +kernel
theorem dX12_headers_27 : decode cX12_headers 27 = .ok (.aload_n 0, 1) := by decide +kernel
theorem dX12_headers_28 : decode cX12_headers 28 = .ok (.getfield 285, 3) := by decide +kernel
theorem dX12_headers_31 : decode cX12_headers 31 = .ok (.iload_n 1, 1) := by decide +kernel
theorem dX12_headers_32 : decode cX12_headers 32 = .ok (.iaload, 1) := by decide +kernel
theorem dX12_headers_33 : decode cX12_headers 33 = .ok (.bipush 20, 2) := by decide +kernel
theorem dX12_headers_35 : decode cX12_headers 35 = .ok (.if_icmp .ne 11, 3) := by decide +kernel
theorem dX12_headers_46 : decode cX12_headers 46 = .ok (.aload_n 0, 1) := by decide +kernel
theorem kX12_keepWhole : h_ml mX12_keepWhole 0 := ⟨h_t9 155 rfl rfl, h_t1 16 rfl rfl, ⟨by decide, by decide, by decide +kernel⟩, by decide⟩
theorem lX12_666 : Cond.methodLink RX12 666 mX12_keepWhole.1 ∈ lw_g := h_t9 152 rfl rfl
theorem sX12_keepWhole : Cond.instanceMethod mX12_keepWhole.1 ∈ lw_g ∧ Cond.selects mX12_keepWhole.1.cls mX12_keepWhole.1 mX12_keepWhole.1 ∈ lw_g := ⟨h_t9 154 rfl rfl, h_ins 180 rfl⟩
theorem dX12_headers_47 : decode cX12_headers 47 = .ok (.invokevirtual 666, 3) := by decide +kernel
theorem dX12_headers_50 : decode cX12_headers 50 = .ok (.aload_n 0, 1) := by decide +kernel
theorem kX12_beginParts : h_ml mX12_beginParts 0 := ⟨h_t9 159 rfl rfl, h_t1 16 rfl rfl, ⟨by decide, by decide, by decide +kernel⟩, by decide⟩
theorem lX12_669 : Cond.methodLink RX12 669 mX12_beginParts.1 ∈ lw_g := h_t9 156 rfl rfl
theorem sX12_beginParts : Cond.instanceMethod mX12_beginParts.1 ∈ lw_g ∧ Cond.selects mX12_beginParts.1.cls mX12_beginParts.1 mX12_beginParts.1 ∈ lw_g := ⟨h_t9 158 rfl rfl, h_ins 181 rfl⟩
theorem dX12_headers_51 : decode cX12_headers 51 = .ok (.invokevirtual 669, 3) := by decide +kernel
theorem dX12_headers_38 : decode cX12_headers 38 = .ok (.aload_n 0, 1) := by decide +kernel
theorem dX12_headers_39 : decode cX12_headers 39 = .ok (.iload_n 1, 1) := by decide +kernel
theorem dX12_headers_40 : decode cX12_headers 40 = .ok (.invokevirtual 664, 3) := by decide +kernel
theorem dX12_headers_43 : decode cX12_headers 43 = .ok (.goto 44, 3) := by decide +kernel
theorem dX12_headers_19 : decode cX12_headers 19 = .ok (.goto 68, 3) := by decide +kernel
theorem dX12_headers_0 : decode cX12_headers 0 = .ok (.iconst 0, 1) := by decide +kernel
theorem dX12_headers_1 : decode cX12_headers 1 = .ok (.istore_n 2, 1) := by decide +kernel
def fb_X12_headers_54 (K2 : Int32 → Int32 → uS → Option uS) (K54 : Int32 → Int32 → uS → Option uS) (x1 : Int32) (x2 : Int32) (s : uS) : Option uS := (fn_X12_nextPart s).bind fun r1 => if r1.2 = true then ((fn_X12_atOf r1.1).bind fun v4 => if 0 ≤ v4 then ((fn_X12_part x1 v4 r1.1).bind fun s7 => (fn_X12_value x1 s7).bind fun s9 => K54 x1 x2 s9) else (K54 x1 x2 r1.1)) else (K2 x1 (x2 + 1) r1.1)
set_option maxRecDepth 100000 in
set_option maxHeartbeats 4000000 in
theorem xb_X12_headers_54 {l : Launch} {D : va_G} {A : Nat → ClassId} {B : Nat} {Z : State → Heap → Prop} {vF : Value} (uk : uK B Z vF) {K2 : Int32 → Int32 → uS → Option uS} {K54 : Int32 → Int32 → uS → Option uS} (hK2 : ∀ (x1 : Int32) (x2 : Int32)  (s : uS) (r : uS), K2 x1 x2 s = some r → GU l D A B Z mX12_headers 5 (r, none) s 2 [(0, .ref (B + 1079)), (1, .int x1), (2, .int x2)] []) (hK54 : ∀ (x1 : Int32) (x2 : Int32)  (s : uS) (r : uS), K54 x1 x2 s = some r → GU l D A B Z mX12_headers 5 (r, none) s 54 [(0, .ref (B + 1079)), (1, .int x1), (2, .int x2)] []) {x1 : Int32} {x2 : Int32} {s : uS} {r : uS}  (h : fb_X12_headers_54 K2 K54 x1 x2 s = some r) : GU l D A B Z mX12_headers 5 (r, none) s 54 [(0, .ref (B + 1079)), (1, .int x1), (2, .int x2)] [] := by
  unfold fb_X12_headers_54 at h
  refine uu_aload_n dX12_headers_54 rfl (List.mem_of_getElem? (i := 0) rfl) ?_
  obtain ⟨r1, e2, h⟩ := uu_ob h
  refine uu_cv (d1 := 1) (k := 1079) (ci := 12) (T := TX12) (N := 153) (As := []) (st := []) (st' := [.int (bI r1.2)]) (xc_X12_nextPart uk  e2) so_1079.is (by decide) rfl kX12_nextPart lX12_672 sX12_nextPart (by decide) (Nat.le_of_ble_eq_true rfl) dX12_headers_55 rfl ?_
  refine uu_ifb_eq (tgt := 87) dX12_headers_58 (by decide) (fun c3 => ?_) (fun c3 => ?_)
  · replace h := uu_neg c3 h
    refine uu_iinc (v := x2 + 1) dX12_headers_87 (k := 2) rfl rfl (by decide) rfl ?_
    refine uu_goto (tgt := 2) dX12_headers_90 (by decide) ?_
    refine uu_lv [1, 2, 0] (lv' := [(0, .ref (B + 1079)), (1, .int x1), (2, .int (x2 + 1))]) rfl ?_
    exact hK2 x1 (x2 + 1) _ _ h
  · replace h := uu_pos c3 h
    refine uu_aload_n dX12_headers_61 rfl (List.mem_of_getElem? (i := 0) rfl) ?_
    obtain ⟨v4, e5, h⟩ := uu_ob h
    refine uu_cv (d1 := 3) (k := 1079) (ci := 12) (T := TX12) (N := 153) (As := []) (st := []) (st' := [.int v4]) (xc_X12_atOf uk  e5) so_1079.is (by decide) rfl kX12_atOf lX12_469 sX12_atOf (by decide) (Nat.le_of_ble_eq_true rfl) dX12_headers_62 rfl ?_
    refine uu_istore_n dX12_headers_65 rfl (by decide) rfl ?_
    refine uu_iload_n dX12_headers_66 rfl (List.mem_of_getElem? (i := 0) rfl) ?_
    refine uu_if_ge (tgt := 73) dX12_headers_67 (by decide) (fun c6 => ?_) (fun c6 => ?_)
    · replace h := uu_pos c6 h
      refine uu_aload_n dX12_headers_73 rfl (List.mem_of_getElem? (i := 1) rfl) ?_
      refine uu_iload_n dX12_headers_74 rfl (List.mem_of_getElem? (i := 2) rfl) ?_
      refine uu_iload_n dX12_headers_75 rfl (List.mem_of_getElem? (i := 0) rfl) ?_
      obtain ⟨s7, e8, h⟩ := uu_ob h
      refine uu_cv (d1 := 0) (k := 1079) (ci := 12) (T := TX12) (N := 153) (As := [.int x1, .int v4]) (st := []) (st' := []) (xc_X12_part uk  e8) so_1079.is (by decide) rfl kX12_part lX12_675 sX12_part (by decide) (Nat.le_of_ble_eq_true rfl) dX12_headers_76 rfl ?_
      refine uu_aload_n dX12_headers_79 rfl (List.mem_of_getElem? (i := 1) rfl) ?_
      refine uu_iload_n dX12_headers_80 rfl (List.mem_of_getElem? (i := 2) rfl) ?_
      obtain ⟨s9, e10, h⟩ := uu_ob h
      refine uu_cv (d1 := 4) (k := 1079) (ci := 12) (T := TX12) (N := 153) (As := [.int x1]) (st := []) (st' := []) (xc_X12_value uk  e10) so_1079.is (by decide) rfl kX12_value lX12_664 sX12_value (by decide) (Nat.le_of_ble_eq_true rfl) dX12_headers_81 rfl ?_
      refine uu_goto (tgt := 54) dX12_headers_84 (by decide) ?_
      refine uu_lv [1, 2, 3] (lv' := [(0, .ref (B + 1079)), (1, .int x1), (2, .int x2)]) rfl ?_
      exact hK54 x1 x2 _ _ h
    · replace h := uu_neg c6 h
      refine uu_goto (tgt := 54) dX12_headers_70 (by decide) ?_
      refine uu_lv [1, 2, 3] (lv' := [(0, .ref (B + 1079)), (1, .int x1), (2, .int x2)]) rfl ?_
      exact hK54 x1 x2 _ _ h
def fn_X12_headers_54 (K2 : Int32 → Int32 → uS → Option uS) : Nat → Int32 → Int32 → uS → Option uS
  | 0 => fun _ _ _ => none
  | n + 1 => fb_X12_headers_54 K2 (fn_X12_headers_54 K2 n)
set_option maxRecDepth 100000 in
set_option maxHeartbeats 4000000 in
theorem xn_X12_headers_54 {l : Launch} {D : va_G} {A : Nat → ClassId} {B : Nat} {Z : State → Heap → Prop} {vF : Value} (uk : uK B Z vF) {K2 : Int32 → Int32 → uS → Option uS} (hK2 : ∀ (x1 : Int32) (x2 : Int32)  (s : uS) (r : uS), K2 x1 x2 s = some r → GU l D A B Z mX12_headers 5 (r, none) s 2 [(0, .ref (B + 1079)), (1, .int x1), (2, .int x2)] []) : ∀ (n : Nat) (x1 : Int32) (x2 : Int32)  (s : uS) (r : uS), fn_X12_headers_54 K2 n x1 x2 s = some r → GU l D A B Z mX12_headers 5 (r, none) s 54 [(0, .ref (B + 1079)), (1, .int x1), (2, .int x2)] [] := by
  intro n
  induction n with
  | zero => intro x1 x2 s r h
            cases h
  | succ n ih => intro x1 x2 s r h
                 exact xb_X12_headers_54 uk hK2 ih  h
def fb_X12_headers_2 (K2 : Int32 → Int32 → uS → Option uS) (x1 : Int32) (x2 : Int32) (s : uS) : Option uS := if (s.I 1079 14) ≤ x2 then (some s) else ((fn_X12_isAmong x1 x2 s).bind fun v2 => if v2 = true then ((fn_X12_oneValue x2 s).bind fun s5 => (iget 20 s5 1098 x1).bind fun v7 => if v7 = 20 then ((fn_X12_value x1 s5).bind fun s14 => K2 x1 (x2 + 1) s14) else ((fn_X12_keepWhole s5).bind fun s10 => (fn_X12_beginParts s10).bind fun s12 => fn_X12_headers_54 K2 uFu x1 x2 s12)) else (K2 x1 (x2 + 1) s))
set_option maxRecDepth 100000 in
set_option maxHeartbeats 4000000 in
theorem xb_X12_headers_2 {l : Launch} {D : va_G} {A : Nat → ClassId} {B : Nat} {Z : State → Heap → Prop} {vF : Value} (uk : uK B Z vF) {K2 : Int32 → Int32 → uS → Option uS} (hK2 : ∀ (x1 : Int32) (x2 : Int32)  (s : uS) (r : uS), K2 x1 x2 s = some r → GU l D A B Z mX12_headers 5 (r, none) s 2 [(0, .ref (B + 1079)), (1, .int x1), (2, .int x2)] []) {x1 : Int32} {x2 : Int32} {s : uS} {r : uS}  (h : fb_X12_headers_2 K2 x1 x2 s = some r) : GU l D A B Z mX12_headers 5 (r, none) s 2 [(0, .ref (B + 1079)), (1, .int x1), (2, .int x2)] [] := by
  unfold fb_X12_headers_2 at h
  refine uu_iload_n dX12_headers_2 rfl (List.mem_of_getElem? (i := 2) rfl) ?_
  refine uu_aload_n dX12_headers_3 rfl (List.mem_of_getElem? (i := 0) rfl) ?_
  refine uu_geti (ci := 12) (N := 153) fX12_85 (by decide) so_1079.is (by decide) (by decide) dX12_headers_4 ?_
  refine uu_icmp_ge (tgt := 93) dX12_headers_7 (by decide) (fun c1 => ?_) (fun c1 => ?_)
  · replace h := uu_pos c1 h
    have hr := Option.some.inj h
    subst hr
    exact uu_vret rfl dX12_headers_93
  · replace h := uu_neg c1 h
    refine uu_aload_n dX12_headers_10 rfl (List.mem_of_getElem? (i := 0) rfl) ?_
    refine uu_iload_n dX12_headers_11 rfl (List.mem_of_getElem? (i := 1) rfl) ?_
    refine uu_iload_n dX12_headers_12 rfl (List.mem_of_getElem? (i := 2) rfl) ?_
    obtain ⟨v2, e3, h⟩ := uu_ob h
    refine uu_cv (d1 := 2) (k := 1079) (ci := 12) (T := TX12) (N := 153) (As := [.int x1, .int x2]) (st := []) (st' := [.int (bI v2)]) (xc_X12_isAmong uk  e3) so_1079.is (by decide) rfl kX12_isAmong lX12_658 sX12_isAmong (by decide) (Nat.le_of_ble_eq_true rfl) dX12_headers_13 rfl ?_
    refine uu_ifb_ne (tgt := 22) dX12_headers_16 (by decide) (fun c4 => ?_) (fun c4 => ?_)
    · replace h := uu_pos c4 h
      refine uu_aload_n dX12_headers_22 rfl (List.mem_of_getElem? (i := 0) rfl) ?_
      refine uu_iload_n dX12_headers_23 rfl (List.mem_of_getElem? (i := 2) rfl) ?_
      obtain ⟨s5, e6, h⟩ := uu_ob h
      refine uu_cv (d1 := 0) (k := 1079) (ci := 12) (T := TX12) (N := 153) (As := [.int x2]) (st := []) (st' := []) (xc_X12_oneValue uk  e6) so_1079.is (by decide) rfl kX12_oneValue lX12_661 sX12_oneValue (by decide) (Nat.le_of_ble_eq_true rfl) dX12_headers_24 rfl ?_
      refine uu_aload_n dX12_headers_27 rfl (List.mem_of_getElem? (i := 0) rfl) ?_
      refine uu_geta (ci := 12) (N := 153) fX12_285 (by decide) so_1079.is (by decide) (c := 1098) (by decide) dX12_headers_28 ?_
      refine uu_iload_n dX12_headers_31 rfl (List.mem_of_getElem? (i := 1) rfl) ?_
      obtain ⟨v7, e8, h⟩ := uu_ob h
      refine uu_iald e8 dX12_headers_32 ?_
      refine uu_bipush (v := 20) dX12_headers_33 (by decide) ?_
      refine uu_icmp_ne (tgt := 46) dX12_headers_35 (by decide) (fun c9 => ?_) (fun c9 => ?_)
      · replace h := uu_neg c9 h
        refine uu_aload_n dX12_headers_46 rfl (List.mem_of_getElem? (i := 0) rfl) ?_
        obtain ⟨s10, e11, h⟩ := uu_ob h
        refine uu_cv (d1 := 0) (k := 1079) (ci := 12) (T := TX12) (N := 153) (As := []) (st := []) (st' := []) (xc_X12_keepWhole uk  e11) so_1079.is (by decide) rfl kX12_keepWhole lX12_666 sX12_keepWhole (by decide) (Nat.le_of_ble_eq_true rfl) dX12_headers_47 rfl ?_
        refine uu_aload_n dX12_headers_50 rfl (List.mem_of_getElem? (i := 0) rfl) ?_
        obtain ⟨s12, e13, h⟩ := uu_ob h
        refine uu_cv (d1 := 0) (k := 1079) (ci := 12) (T := TX12) (N := 153) (As := []) (st := []) (st' := []) (xc_X12_beginParts uk  e13) so_1079.is (by decide) rfl kX12_beginParts lX12_669 sX12_beginParts (by decide) (Nat.le_of_ble_eq_true rfl) dX12_headers_51 rfl ?_
        exact xn_X12_headers_54 uk hK2 _ _ _ _ _ h
      · replace h := uu_pos c9 h
        refine uu_aload_n dX12_headers_38 rfl (List.mem_of_getElem? (i := 0) rfl) ?_
        refine uu_iload_n dX12_headers_39 rfl (List.mem_of_getElem? (i := 1) rfl) ?_
        obtain ⟨s14, e15, h⟩ := uu_ob h
        refine uu_cv (d1 := 4) (k := 1079) (ci := 12) (T := TX12) (N := 153) (As := [.int x1]) (st := []) (st' := []) (xc_X12_value uk  e15) so_1079.is (by decide) rfl kX12_value lX12_664 sX12_value (by decide) (Nat.le_of_ble_eq_true rfl) dX12_headers_40 rfl ?_
        refine uu_goto (tgt := 87) dX12_headers_43 (by decide) ?_
        refine uu_iinc (v := x2 + 1) dX12_headers_87 (k := 2) rfl rfl (by decide) rfl ?_
        refine uu_goto (tgt := 2) dX12_headers_90 (by decide) ?_
        refine uu_lv [1, 2, 0] (lv' := [(0, .ref (B + 1079)), (1, .int x1), (2, .int (x2 + 1))]) rfl ?_
        exact hK2 x1 (x2 + 1) _ _ h
    · replace h := uu_neg c4 h
      refine uu_goto (tgt := 87) dX12_headers_19 (by decide) ?_
      refine uu_iinc (v := x2 + 1) dX12_headers_87 (k := 2) rfl rfl (by decide) rfl ?_
      refine uu_goto (tgt := 2) dX12_headers_90 (by decide) ?_
      refine uu_lv [1, 2, 0] (lv' := [(0, .ref (B + 1079)), (1, .int x1), (2, .int (x2 + 1))]) rfl ?_
      exact hK2 x1 (x2 + 1) _ _ h
def fn_X12_headers_2  : Nat → Int32 → Int32 → uS → Option uS
  | 0 => fun _ _ _ => none
  | n + 1 => fb_X12_headers_2 (fn_X12_headers_2  n)
set_option maxRecDepth 100000 in
set_option maxHeartbeats 4000000 in
theorem xn_X12_headers_2 {l : Launch} {D : va_G} {A : Nat → ClassId} {B : Nat} {Z : State → Heap → Prop} {vF : Value} (uk : uK B Z vF)   : ∀ (n : Nat) (x1 : Int32) (x2 : Int32)  (s : uS) (r : uS), fn_X12_headers_2  n x1 x2 s = some r → GU l D A B Z mX12_headers 5 (r, none) s 2 [(0, .ref (B + 1079)), (1, .int x1), (2, .int x2)] [] := by
  intro n
  induction n with
  | zero => intro x1 x2 s r h
            cases h
  | succ n ih => intro x1 x2 s r h
                 exact xb_X12_headers_2 uk ih  h
def fn_X12_headers (x1 : Int32) (s : uS) : Option uS := fn_X12_headers_2 uFu x1 0 s
set_option maxRecDepth 100000 in
set_option maxHeartbeats 4000000 in
theorem xc_X12_headers {l : Launch} {D : va_G} {A : Nat → ClassId} {B : Nat} {Z : State → Heap → Prop} {vF : Value} (uk : uK B Z vF) {x1 : Int32} {s : uS} {r : uS}  (h : fn_X12_headers x1 s = some r) : CU l D A B Z 5 mX12_headers s [.ref (B + 1079), .int x1] (r, none) := by
  unfold fn_X12_headers at h
  refine cu_of rfl uk.1.1 (Nat.le_of_ble_eq_true rfl) ?_
  show GU _ _ _ _ _ _ _ _ _ 0 [(0, .ref (B + 1079)), (1, .int x1)] []
  refine uu_iconst (v := 0) dX12_headers_0 (by decide) ?_
  refine uu_istore_n dX12_headers_1 rfl (by decide) rfl ?_
  refine uu_lv [1, 2, 0] (lv' := [(0, .ref (B + 1079)), (1, .int x1), (2, .int 0)]) rfl ?_
  exact xn_X12_headers_2 uk  _ _ _ _ _ h
abbrev mX12_oneFrom : hM := (yX12_oneFrom, cX12_oneFrom, 2, none)
theorem dX12_oneFrom_10 : decode cX12_oneFrom 10 = .ok (.iload_n 1, 1) := by decide +kernel
theorem dX12_oneFrom_11 : decode cX12_oneFrom 11 = .ok (.aload_n 0, 1) := by decide +kernel
theorem fX12_678 : h_fl RX12 678 12 93 RX12 TX12 153 := ⟨rfl, by decide, inX12, h_t12 54 rfl rfl⟩
theorem dX12_oneFrom_12 : decode cX12_oneFrom 12 = .ok (.getfield 678, 3) := by decide +kernel
theorem dX12_oneFrom_15 : decode cX12_oneFrom 15 = .ok (.if_icmp .ge 21, 3) := by decide +kernel
theorem dX12_oneFrom_36 : decode cX12_oneFrom 36 = .ok (.return_, 1) := by decide +kernel
theorem dX12_oneFrom_18 : decode cX12_oneFrom 18 = .ok (.aload_n 0, 1) := by decide +kernel
theorem dX12_oneFrom_19 : decode cX12_oneFrom 19 = .ok (.getfield 116, 3) := by decide +kernel
theorem dX12_oneFrom_22 : decode cX12_oneFrom 22 = .ok (.iload_n 1, 1) := by decide +kernel
theorem dX12_oneFrom_23 : decode cX12_oneFrom 23 = .ok (.aload_n 0, 1) := by decide +kernel
theorem dX12_oneFrom_24 : decode cX12_oneFrom 24 = .ok (.getfield 681, 3) := by decide +kernel
theorem dX12_oneFrom_27 : decode cX12_oneFrom 27 = .ok (.iload_n 1, 1) := by decide +kernel
theorem dX12_oneFrom_28 : decode cX12_oneFrom 28 = .ok (.iaload, 1) := by decide +kernel
theorem dX12_oneFrom_29 : decode cX12_oneFrom 29 = .ok (.iastore, 1) := by decide +kernel
theorem dX12_oneFrom_30 : decode cX12_oneFrom 30 = .ok (.iinc 1 1, 3) := by decide +kernel
theorem dX12_oneFrom_33 : decode cX12_oneFrom 33 = .ok (.goto (-23), 3) := by decide +kernel
theorem dX12_oneFrom_0 : decode cX12_oneFrom 0 = .ok (.aload_n 0, 1) := by decide +kernel
theorem dX12_oneFrom_1 : decode cX12_oneFrom 1 = .ok (.aload_n 0, 1) := by decide +kernel
theorem dX12_oneFrom_2 : decode cX12_oneFrom 2 = .ok (.getfield 678, 3) := by decide +kernel
theorem dX12_oneFrom_5 : decode cX12_oneFrom 5 = .ok (.putfield 110, 3) := by decide +kernel
theorem dX12_oneFrom_8 : decode cX12_oneFrom 8 = .ok (.iconst 0, 1) := by decide +kernel
theorem dX12_oneFrom_9 : decode cX12_oneFrom 9 = .ok (.istore_n 1, 1) := by decide +kernel
def fb_X12_oneFrom_10 (K10 : Int32 → uS → Option uS) (x1 : Int32) (s : uS) : Option uS := if (s.I 1079 93) ≤ x1 then (some s) else ((iget 20 s 1137 x1).bind fun v2 => (iput 20 s 1093 x1 v2).bind fun s4 => K10 (x1 + 1) s4)
set_option maxRecDepth 100000 in
set_option maxHeartbeats 4000000 in
theorem xb_X12_oneFrom_10 {l : Launch} {D : va_G} {A : Nat → ClassId} {B : Nat} {Z : State → Heap → Prop} {vF : Value} (uk : uK B Z vF) {K10 : Int32 → uS → Option uS} (hK10 : ∀ (x1 : Int32)  (s : uS) (r : uS), K10 x1 s = some r → GU l D A B Z mX12_oneFrom 0 (r, none) s 10 [(0, .ref (B + 1079)), (1, .int x1)] []) {x1 : Int32} {s : uS} {r : uS}  (h : fb_X12_oneFrom_10 K10 x1 s = some r) : GU l D A B Z mX12_oneFrom 0 (r, none) s 10 [(0, .ref (B + 1079)), (1, .int x1)] [] := by
  unfold fb_X12_oneFrom_10 at h
  refine uu_iload_n dX12_oneFrom_10 rfl (List.mem_of_getElem? (i := 1) rfl) ?_
  refine uu_aload_n dX12_oneFrom_11 rfl (List.mem_of_getElem? (i := 0) rfl) ?_
  refine uu_geti (ci := 12) (N := 153) fX12_678 (by decide) so_1079.is (by decide) (by decide) dX12_oneFrom_12 ?_
  refine uu_icmp_ge (tgt := 36) dX12_oneFrom_15 (by decide) (fun c1 => ?_) (fun c1 => ?_)
  · replace h := uu_pos c1 h
    have hr := Option.some.inj h
    subst hr
    exact uu_vret rfl dX12_oneFrom_36
  · replace h := uu_neg c1 h
    refine uu_aload_n dX12_oneFrom_18 rfl (List.mem_of_getElem? (i := 0) rfl) ?_
    refine uu_geta (ci := 12) (N := 153) fX12_116 (by decide) so_1079.is (by decide) (c := 1093) (by decide) dX12_oneFrom_19 ?_
    refine uu_iload_n dX12_oneFrom_22 rfl (List.mem_of_getElem? (i := 1) rfl) ?_
    refine uu_aload_n dX12_oneFrom_23 rfl (List.mem_of_getElem? (i := 0) rfl) ?_
    refine uu_geta (ci := 12) (N := 153) fX12_681 (by decide) so_1079.is (by decide) (c := 1137) (by decide) dX12_oneFrom_24 ?_
    refine uu_iload_n dX12_oneFrom_27 rfl (List.mem_of_getElem? (i := 1) rfl) ?_
    obtain ⟨v2, e3, h⟩ := uu_ob h
    refine uu_iald e3 dX12_oneFrom_28 ?_
    obtain ⟨s4, e5, h⟩ := uu_ob h
    refine uu_iast e5 dX12_oneFrom_29 ?_
    refine uu_iinc (v := x1 + 1) dX12_oneFrom_30 (k := 1) rfl rfl (by decide) rfl ?_
    refine uu_goto (tgt := 10) dX12_oneFrom_33 (by decide) ?_
    refine uu_lv [1, 0] (lv' := [(0, .ref (B + 1079)), (1, .int (x1 + 1))]) rfl ?_
    exact hK10 (x1 + 1) _ _ h
def fn_X12_oneFrom_10  : Nat → Int32 → uS → Option uS
  | 0 => fun _ _ => none
  | n + 1 => fb_X12_oneFrom_10 (fn_X12_oneFrom_10  n)
set_option maxRecDepth 100000 in
set_option maxHeartbeats 4000000 in
theorem xn_X12_oneFrom_10 {l : Launch} {D : va_G} {A : Nat → ClassId} {B : Nat} {Z : State → Heap → Prop} {vF : Value} (uk : uK B Z vF)   : ∀ (n : Nat) (x1 : Int32)  (s : uS) (r : uS), fn_X12_oneFrom_10  n x1 s = some r → GU l D A B Z mX12_oneFrom 0 (r, none) s 10 [(0, .ref (B + 1079)), (1, .int x1)] [] := by
  intro n
  induction n with
  | zero => intro x1 s r h
            cases h
  | succ n ih => intro x1 s r h
                 exact xb_X12_oneFrom_10 uk ih  h
def fn_X12_oneFrom  (s : uS) : Option uS := fn_X12_oneFrom_10 uFu 0 (wI s 1079 21 (s.I 1079 93))
set_option maxRecDepth 100000 in
set_option maxHeartbeats 4000000 in
theorem xc_X12_oneFrom {l : Launch} {D : va_G} {A : Nat → ClassId} {B : Nat} {Z : State → Heap → Prop} {vF : Value} (uk : uK B Z vF)  {s : uS} {r : uS}  (h : fn_X12_oneFrom  s = some r) : CU l D A B Z 0 mX12_oneFrom s [.ref (B + 1079)] (r, none) := by
  unfold fn_X12_oneFrom at h
  refine cu_of rfl uk.1.1 (Nat.le_of_ble_eq_true rfl) ?_
  show GU _ _ _ _ _ _ _ _ _ 0 [(0, .ref (B + 1079))] []
  refine uu_aload_n dX12_oneFrom_0 rfl (List.mem_of_getElem? (i := 0) rfl) ?_
  refine uu_aload_n dX12_oneFrom_1 rfl (List.mem_of_getElem? (i := 0) rfl) ?_
  refine uu_geti (ci := 12) (N := 153) fX12_678 (by decide) so_1079.is (by decide) (by decide) dX12_oneFrom_2 ?_
  refine uu_puti (ft := .int) (ci := 12) (N := 153) fX12_110 ptX12 (Or.inl rfl) (by decide) so_1079.is (by decide) (by decide) (by decide +kernel) rfl rfl dX12_oneFrom_5 ?_
  refine uu_iconst (v := 0) dX12_oneFrom_8 (by decide) ?_
  refine uu_istore_n dX12_oneFrom_9 rfl (by decide) rfl ?_
  refine uu_lv [1, 0] (lv' := [(0, .ref (B + 1079)), (1, .int 0)]) rfl ?_
  exact xn_X12_oneFrom_10 uk  _ _ _ _ h
abbrev mX12_oneTo : hM := (yX12_oneTo, cX12_oneTo, 2, none)
theorem dX12_oneTo_10 : decode cX12_oneTo 10 = .ok (.iload_n 1, 1) := by decide +kernel
theorem dX12_oneTo_11 : decode cX12_oneTo 11 = .ok (.aload_n 0, 1) := by decide +kernel
theorem fX12_684 : h_fl RX12 684 12 91 RX12 TX12 153 := ⟨rfl, by decide, inX12, h_t12 52 rfl rfl⟩
theorem dX12_oneTo_12 : decode cX12_oneTo 12 = .ok (.getfield 684, 3) := by decide +kernel
theorem dX12_oneTo_15 : decode cX12_oneTo 15 = .ok (.if_icmp .ge 21, 3) := by decide +kernel
theorem dX12_oneTo_36 : decode cX12_oneTo 36 = .ok (.return_, 1) := by decide +kernel
theorem dX12_oneTo_18 : decode cX12_oneTo 18 = .ok (.aload_n 0, 1) := by decide +kernel
theorem dX12_oneTo_19 : decode cX12_oneTo 19 = .ok (.getfield 116, 3) := by decide +kernel
theorem dX12_oneTo_22 : decode cX12_oneTo 22 = .ok (.iload_n 1, 1) := by decide +kernel
theorem dX12_oneTo_23 : decode cX12_oneTo 23 = .ok (.aload_n 0, 1) := by decide +kernel
theorem dX12_oneTo_24 : decode cX12_oneTo 24 = .ok (.getfield 687, 3) := by decide +kernel
theorem dX12_oneTo_27 : decode cX12_oneTo 27 = .ok (.iload_n 1, 1) := by decide +kernel
theorem dX12_oneTo_28 : decode cX12_oneTo 28 = .ok (.iaload, 1) := by decide +kernel
theorem dX12_oneTo_29 : decode cX12_oneTo 29 = .ok (.iastore, 1) := by decide +kernel
theorem dX12_oneTo_30 : decode cX12_oneTo 30 = .ok (.iinc 1 1, 3) := by decide +kernel
theorem dX12_oneTo_33 : decode cX12_oneTo 33 = .ok (.goto (-23), 3) := by decide +kernel
theorem dX12_oneTo_0 : decode cX12_oneTo 0 = .ok (.aload_n 0, 1) := by decide +kernel
theorem dX12_oneTo_1 : decode cX12_oneTo 1 = .ok (.aload_n 0, 1) := by decide +kernel
theorem dX12_oneTo_2 : decode cX12_oneTo 2 = .ok (.getfield 684, 3) := by decide +kernel
theorem dX12_oneTo_5 : decode cX12_oneTo 5 = .ok (.putfield 110, 3) := by decide +kernel
theorem dX12_oneTo_8 : decode cX12_oneTo 8 = .ok (.iconst 0, 1) := by decide +kernel
theorem dX12_oneTo_9 : decode cX12_oneTo 9 = .ok (.istore_n 1, 1) := by decide +kernel
def fb_X12_oneTo_10 (K10 : Int32 → uS → Option uS) (x1 : Int32) (s : uS) : Option uS := if (s.I 1079 91) ≤ x1 then (some s) else ((iget 20 s 1136 x1).bind fun v2 => (iput 20 s 1093 x1 v2).bind fun s4 => K10 (x1 + 1) s4)
set_option maxRecDepth 100000 in
set_option maxHeartbeats 4000000 in
theorem xb_X12_oneTo_10 {l : Launch} {D : va_G} {A : Nat → ClassId} {B : Nat} {Z : State → Heap → Prop} {vF : Value} (uk : uK B Z vF) {K10 : Int32 → uS → Option uS} (hK10 : ∀ (x1 : Int32)  (s : uS) (r : uS), K10 x1 s = some r → GU l D A B Z mX12_oneTo 0 (r, none) s 10 [(0, .ref (B + 1079)), (1, .int x1)] []) {x1 : Int32} {s : uS} {r : uS}  (h : fb_X12_oneTo_10 K10 x1 s = some r) : GU l D A B Z mX12_oneTo 0 (r, none) s 10 [(0, .ref (B + 1079)), (1, .int x1)] [] := by
  unfold fb_X12_oneTo_10 at h
  refine uu_iload_n dX12_oneTo_10 rfl (List.mem_of_getElem? (i := 1) rfl) ?_
  refine uu_aload_n dX12_oneTo_11 rfl (List.mem_of_getElem? (i := 0) rfl) ?_
  refine uu_geti (ci := 12) (N := 153) fX12_684 (by decide) so_1079.is (by decide) (by decide) dX12_oneTo_12 ?_
  refine uu_icmp_ge (tgt := 36) dX12_oneTo_15 (by decide) (fun c1 => ?_) (fun c1 => ?_)
  · replace h := uu_pos c1 h
    have hr := Option.some.inj h
    subst hr
    exact uu_vret rfl dX12_oneTo_36
  · replace h := uu_neg c1 h
    refine uu_aload_n dX12_oneTo_18 rfl (List.mem_of_getElem? (i := 0) rfl) ?_
    refine uu_geta (ci := 12) (N := 153) fX12_116 (by decide) so_1079.is (by decide) (c := 1093) (by decide) dX12_oneTo_19 ?_
    refine uu_iload_n dX12_oneTo_22 rfl (List.mem_of_getElem? (i := 1) rfl) ?_
    refine uu_aload_n dX12_oneTo_23 rfl (List.mem_of_getElem? (i := 0) rfl) ?_
    refine uu_geta (ci := 12) (N := 153) fX12_687 (by decide) so_1079.is (by decide) (c := 1136) (by decide) dX12_oneTo_24 ?_
    refine uu_iload_n dX12_oneTo_27 rfl (List.mem_of_getElem? (i := 1) rfl) ?_
    obtain ⟨v2, e3, h⟩ := uu_ob h
    refine uu_iald e3 dX12_oneTo_28 ?_
    obtain ⟨s4, e5, h⟩ := uu_ob h
    refine uu_iast e5 dX12_oneTo_29 ?_
    refine uu_iinc (v := x1 + 1) dX12_oneTo_30 (k := 1) rfl rfl (by decide) rfl ?_
    refine uu_goto (tgt := 10) dX12_oneTo_33 (by decide) ?_
    refine uu_lv [1, 0] (lv' := [(0, .ref (B + 1079)), (1, .int (x1 + 1))]) rfl ?_
    exact hK10 (x1 + 1) _ _ h
def fn_X12_oneTo_10  : Nat → Int32 → uS → Option uS
  | 0 => fun _ _ => none
  | n + 1 => fb_X12_oneTo_10 (fn_X12_oneTo_10  n)
set_option maxRecDepth 100000 in
set_option maxHeartbeats 4000000 in
theorem xn_X12_oneTo_10 {l : Launch} {D : va_G} {A : Nat → ClassId} {B : Nat} {Z : State → Heap → Prop} {vF : Value} (uk : uK B Z vF)   : ∀ (n : Nat) (x1 : Int32)  (s : uS) (r : uS), fn_X12_oneTo_10  n x1 s = some r → GU l D A B Z mX12_oneTo 0 (r, none) s 10 [(0, .ref (B + 1079)), (1, .int x1)] [] := by
  intro n
  induction n with
  | zero => intro x1 s r h
            cases h
  | succ n ih => intro x1 s r h
                 exact xb_X12_oneTo_10 uk ih  h
def fn_X12_oneTo  (s : uS) : Option uS := fn_X12_oneTo_10 uFu 0 (wI s 1079 21 (s.I 1079 91))
set_option maxRecDepth 100000 in
set_option maxHeartbeats 4000000 in
theorem xc_X12_oneTo {l : Launch} {D : va_G} {A : Nat → ClassId} {B : Nat} {Z : State → Heap → Prop} {vF : Value} (uk : uK B Z vF)  {s : uS} {r : uS}  (h : fn_X12_oneTo  s = some r) : CU l D A B Z 0 mX12_oneTo s [.ref (B + 1079)] (r, none) := by
  unfold fn_X12_oneTo at h
  refine cu_of rfl uk.1.1 (Nat.le_of_ble_eq_true rfl) ?_
  show GU _ _ _ _ _ _ _ _ _ 0 [(0, .ref (B + 1079))] []
  refine uu_aload_n dX12_oneTo_0 rfl (List.mem_of_getElem? (i := 0) rfl) ?_
  refine uu_aload_n dX12_oneTo_1 rfl (List.mem_of_getElem? (i := 0) rfl) ?_
  refine uu_geti (ci := 12) (N := 153) fX12_684 (by decide) so_1079.is (by decide) (by decide) dX12_oneTo_2 ?_
  refine uu_puti (ft := .int) (ci := 12) (N := 153) fX12_110 ptX12 (Or.inl rfl) (by decide) so_1079.is (by decide) (by decide) (by decide +kernel) rfl rfl dX12_oneTo_5 ?_
  refine uu_iconst (v := 0) dX12_oneTo_8 (by decide) ?_
  refine uu_istore_n dX12_oneTo_9 rfl (by decide) rfl ?_
  refine uu_lv [1, 0] (lv' := [(0, .ref (B + 1079)), (1, .int 0)]) rfl ?_
  exact xn_X12_oneTo_10 uk  _ _ _ _ h
