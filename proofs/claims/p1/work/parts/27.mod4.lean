abbrev mX12_tell : hM := (yX12_tell, cX12_tell, 4, none)
theorem dX12_tell_0 : decode cX12_tell 0 = .ok (.iconst 0, 1) := by decide +kernel
theorem dX12_tell_1 : decode cX12_tell 1 = .ok (.istore_n 3, 1) := by decide +kernel
theorem dX12_tell_2 : decode cX12_tell 2 = .ok (.iload_n 3, 1) := by decide +kernel
theorem dX12_tell_3 : decode cX12_tell 3 = .ok (.aload_n 2, 1) := by decide +kernel
theorem dX12_tell_4 : decode cX12_tell 4 = .ok (.invokevirtual 58, 3) := by decide +kernel
theorem lX12_58 : Cond.methodLink RX12 58 mJ0_length_8abf5.1 ∈ lw_g := h_t8 1 rfl rfl
theorem dX12_tell_7 : decode cX12_tell 7 = .ok (.if_icmp .ge 19, 3) := by decide +kernel
theorem dX12_tell_10 : decode cX12_tell 10 = .ok (.aload_n 0, 1) := by decide +kernel
theorem dX12_tell_11 : decode cX12_tell 11 = .ok (.iload_n 1, 1) := by decide +kernel
theorem dX12_tell_12 : decode cX12_tell 12 = .ok (.aload_n 2, 1) := by decide +kernel
theorem dX12_tell_13 : decode cX12_tell 13 = .ok (.iload_n 3, 1) := by decide +kernel
theorem dX12_tell_14 : decode cX12_tell 14 = .ok (.invokevirtual 64, 3) := by decide +kernel
theorem dX12_tell_17 : decode cX12_tell 17 = .ok (.invokevirtual 54, 3) := by decide +kernel
theorem kX12_say : h_ml mX12_say 2 := ⟨h_t7 223 rfl rfl, h_t1 16 rfl rfl, ⟨by decide, by decide, by decide +kernel⟩, by decide⟩
theorem sX12_say : Cond.instanceMethod mX12_say.1 ∈ lw_g ∧ Cond.selects mX12_say.1.cls mX12_say.1 mX12_say.1 ∈ lw_g := ⟨h_t7 222 rfl rfl, h_ins 102 rfl⟩
theorem lX12_54 : Cond.methodLink RX12 54 mX12_say.1 ∈ lw_g := h_t7 220 rfl rfl
theorem dX12_tell_20 : decode cX12_tell 20 = .ok (.iinc 3 1, 3) := by decide +kernel
theorem dX12_tell_23 : decode cX12_tell 23 = .ok (.goto (-21), 3) := by decide +kernel
theorem dX12_tell_26 : decode cX12_tell 26 = .ok (.return_, 1) := by decide +kernel
abbrev mX12_line : hM := (yX12_line, cX12_line, 3, none)
theorem dX12_line_0 : decode cX12_line 0 = .ok (.aload_n 0, 1) := by decide +kernel
theorem dX12_line_1 : decode cX12_line 1 = .ok (.iload_n 1, 1) := by decide +kernel
theorem dX12_line_2 : decode cX12_line 2 = .ok (.aload_n 2, 1) := by decide +kernel
theorem dX12_line_3 : decode cX12_line 3 = .ok (.invokevirtual 68, 3) := by decide +kernel
theorem kX12_tell : h_ml mX12_tell 2 := ⟨h_t8 0 rfl rfl, h_t1 16 rfl rfl, ⟨by decide, by decide, by decide +kernel⟩, by decide⟩
theorem sX12_tell : Cond.instanceMethod mX12_tell.1 ∈ lw_g ∧ Cond.selects mX12_tell.1.cls mX12_tell.1 mX12_tell.1 ∈ lw_g := ⟨h_t7 239 rfl rfl, h_ins 105 rfl⟩
theorem lX12_68 : Cond.methodLink RX12 68 mX12_tell.1 ∈ lw_g := h_t7 237 rfl rfl
theorem dX12_line_6 : decode cX12_line 6 = .ok (.aload_n 0, 1) := by decide +kernel
theorem dX12_line_7 : decode cX12_line 7 = .ok (.iload_n 1, 1) := by decide +kernel
theorem dX12_line_8 : decode cX12_line 8 = .ok (.bipush 13, 2) := by decide +kernel
theorem dX12_line_10 : decode cX12_line 10 = .ok (.invokevirtual 54, 3) := by decide +kernel
theorem dX12_line_13 : decode cX12_line 13 = .ok (.aload_n 0, 1) := by decide +kernel
theorem dX12_line_14 : decode cX12_line 14 = .ok (.iload_n 1, 1) := by decide +kernel
theorem dX12_line_15 : decode cX12_line 15 = .ok (.bipush 10, 2) := by decide +kernel
theorem dX12_line_17 : decode cX12_line 17 = .ok (.invokevirtual 54, 3) := by decide +kernel
theorem dX12_line_20 : decode cX12_line 20 = .ok (.return_, 1) := by decide +kernel
abbrev mX12_reset : hM := (yX12_reset, cX12_reset, 1, none)
theorem dX12_reset_0 : decode cX12_reset 0 = .ok (.aload_n 0, 1) := by decide +kernel
theorem dX12_reset_1 : decode cX12_reset 1 = .ok (.iconst 0, 1) := by decide +kernel
theorem dX12_reset_2 : decode cX12_reset 2 = .ok (.putfield 1029, 3) := by decide +kernel
theorem fX12_1029 : h_fl RX12 1029 12 115 RX12 TX12 153 := ⟨rfl, by decide, inX12, h_t12 76 rfl rfl⟩
theorem dX12_reset_5 : decode cX12_reset 5 = .ok (.aload_n 0, 1) := by decide +kernel
theorem dX12_reset_6 : decode cX12_reset 6 = .ok (.iconst 0, 1) := by decide +kernel
theorem dX12_reset_7 : decode cX12_reset 7 = .ok (.putfield 1032, 3) := by decide +kernel
theorem fX12_1032 : h_fl RX12 1032 12 117 RX12 TX12 153 := ⟨rfl, by decide, inX12, h_t12 78 rfl rfl⟩
theorem dX12_reset_10 : decode cX12_reset 10 = .ok (.return_, 1) := by decide +kernel
abbrev mX12_connect : hM := (yX12_connect, cX12_connect, 1, (some (.boolean)))
theorem dX12_connect_0 : decode cX12_connect 0 = .ok (.aload_n 0, 1) := by decide +kernel
theorem dX12_connect_1 : decode cX12_connect 1 = .ok (.getfield 7, 3) := by decide +kernel
theorem dX12_connect_4 : decode cX12_connect 4 = .ok (.ifCond .ne 5, 3) := by decide +kernel
theorem dX12_connect_7 : decode cX12_connect 7 = .ok (.iconst 0, 1) := by decide +kernel
theorem dX12_connect_8 : decode cX12_connect 8 = .ok (.ireturn, 1) := by decide +kernel
theorem dX12_connect_9 : decode cX12_connect 9 = .ok (.aload_n 0, 1) := by decide +kernel
theorem dX12_connect_10 : decode cX12_connect 10 = .ok (.iconst 1, 1) := by decide +kernel
theorem dX12_connect_11 : decode cX12_connect 11 = .ok (.putfield 11, 3) := by decide +kernel
theorem dX12_connect_14 : decode cX12_connect 14 = .ok (.aload_n 0, 1) := by decide +kernel
theorem dX12_connect_15 : decode cX12_connect 15 = .ok (.iconst 0, 1) := by decide +kernel
theorem dX12_connect_16 : decode cX12_connect 16 = .ok (.putfield 1012, 3) := by decide +kernel
theorem fX12_1012 : h_fl RX12 1012 12 114 RX12 TX12 153 := ⟨rfl, by decide, inX12, h_t12 75 rfl rfl⟩
theorem dX12_connect_19 : decode cX12_connect 19 = .ok (.aload_n 0, 1) := by decide +kernel
theorem dX12_connect_20 : decode cX12_connect 20 = .ok (.invokevirtual 1015, 3) := by decide +kernel
theorem kX12_reset : h_ml mX12_reset 0 := ⟨h_t7 231 rfl rfl, h_t1 16 rfl rfl, ⟨by decide, by decide, by decide +kernel⟩, by decide⟩
theorem sX12_reset : Cond.instanceMethod mX12_reset.1 ∈ lw_g ∧ Cond.selects mX12_reset.1.cls mX12_reset.1 mX12_reset.1 ∈ lw_g := ⟨h_t7 230 rfl rfl, h_ins 103 rfl⟩
theorem lX12_1015 : Cond.methodLink RX12 1015 mX12_reset.1 ∈ lw_g := h_t7 228 rfl rfl
theorem dX12_connect_23 : decode cX12_connect 23 = .ok (.aload_n 0, 1) := by decide +kernel
theorem dX12_connect_24 : decode cX12_connect 24 = .ok (.iconst 0, 1) := by decide +kernel
theorem dX12_connect_25 : decode cX12_connect 25 = .ok (.putfield 1018, 3) := by decide +kernel
theorem fX12_1018 : h_fl RX12 1018 12 116 RX12 TX12 153 := ⟨rfl, by decide, inX12, h_t12 77 rfl rfl⟩
theorem dX12_connect_28 : decode cX12_connect 28 = .ok (.aload_n 0, 1) := by decide +kernel
theorem dX12_connect_29 : decode cX12_connect 29 = .ok (.iconst 0, 1) := by decide +kernel
theorem dX12_connect_30 : decode cX12_connect 30 = .ok (.putfield 1021, 3) := by decide +kernel
theorem fX12_1021 : h_fl RX12 1021 12 122 RX12 TX12 153 := ⟨rfl, by decide, inX12, h_t12 83 rfl rfl⟩
theorem dX12_connect_33 : decode cX12_connect 33 = .ok (.aload_n 0, 1) := by decide +kernel
theorem dX12_connect_34 : decode cX12_connect 34 = .ok (.iconst 0, 1) := by decide +kernel
theorem dX12_connect_35 : decode cX12_connect 35 = .ok (.putfield 1024, 3) := by decide +kernel
theorem fX12_1024 : h_fl RX12 1024 12 123 RX12 TX12 153 := ⟨rfl, by decide, inX12, h_t12 84 rfl rfl⟩
theorem dX12_connect_38 : decode cX12_connect 38 = .ok (.aload_n 0, 1) := by decide +kernel
theorem dX12_connect_39 : decode cX12_connect 39 = .ok (.iconst 4, 1) := by decide +kernel
theorem dX12_connect_40 : decode cX12_connect 40 = .ok (.ldc_w 1027, 3) := by decide +kernel
theorem dX12_connect_43 : decode cX12_connect 43 = .ok (.invokevirtual 974, 3) := by decide +kernel
theorem kX12_line : h_ml mX12_line 2 := ⟨h_t7 236 rfl rfl, h_t1 16 rfl rfl, ⟨by decide, by decide, by decide +kernel⟩, by decide⟩
theorem sX12_line : Cond.instanceMethod mX12_line.1 ∈ lw_g ∧ Cond.selects mX12_line.1.cls mX12_line.1 mX12_line.1 ∈ lw_g := ⟨h_t7 235 rfl rfl, h_ins 104 rfl⟩
theorem lX12_974 : Cond.methodLink RX12 974 mX12_line.1 ∈ lw_g := h_t7 233 rfl rfl
theorem dX12_connect_46 : decode cX12_connect 46 = .ok (.iconst 1, 1) := by decide +kernel
theorem dX12_connect_47 : decode cX12_connect 47 = .ok (.ireturn, 1) := by decide +kernel
abbrev mX12_count : hM := (yX12_count, cX12_count, 2, (some (.int)))
theorem dX12_count_0 : decode cX12_count 0 = .ok (.iload_n 1, 1) := by decide +kernel
theorem dX12_count_1 : decode cX12_count 1 = .ok (.bipush 10, 2) := by decide +kernel
theorem dX12_count_3 : decode cX12_count 3 = .ok (.if_icmp .lt 19, 3) := by decide +kernel
theorem dX12_count_6 : decode cX12_count 6 = .ok (.iload_n 1, 1) := by decide +kernel
theorem dX12_count_7 : decode cX12_count 7 = .ok (.bipush 13, 2) := by decide +kernel
theorem dX12_count_9 : decode cX12_count 9 = .ok (.if_icmp .gt 13, 3) := by decide +kernel
theorem dX12_count_12 : decode cX12_count 12 = .ok (.aload_n 0, 1) := by decide +kernel
theorem dX12_count_13 : decode cX12_count 13 = .ok (.getfield 1180, 3) := by decide +kernel
theorem dX12_count_16 : decode cX12_count 16 = .ok (.iload_n 1, 1) := by decide +kernel
theorem dX12_count_17 : decode cX12_count 17 = .ok (.bipush 10, 2) := by decide +kernel
theorem dX12_count_19 : decode cX12_count 19 = .ok (.isub, 1) := by decide +kernel
theorem dX12_count_20 : decode cX12_count 20 = .ok (.iaload, 1) := by decide +kernel
theorem dX12_count_21 : decode cX12_count 21 = .ok (.ireturn, 1) := by decide +kernel
theorem dX12_count_22 : decode cX12_count 22 = .ok (.iload_n 1, 1) := by decide +kernel
theorem dX12_count_23 : decode cX12_count 23 = .ok (.bipush 20, 2) := by decide +kernel
theorem dX12_count_25 : decode cX12_count 25 = .ok (.if_icmp .lt 19, 3) := by decide +kernel
theorem dX12_count_28 : decode cX12_count 28 = .ok (.iload_n 1, 1) := by decide +kernel
theorem dX12_count_29 : decode cX12_count 29 = .ok (.bipush 23, 2) := by decide +kernel
theorem dX12_count_31 : decode cX12_count 31 = .ok (.if_icmp .gt 13, 3) := by decide +kernel
theorem dX12_count_34 : decode cX12_count 34 = .ok (.aload_n 0, 1) := by decide +kernel
theorem dX12_count_35 : decode cX12_count 35 = .ok (.getfield 857, 3) := by decide +kernel
theorem dX12_count_38 : decode cX12_count 38 = .ok (.iload_n 1, 1) := by decide +kernel
theorem dX12_count_39 : decode cX12_count 39 = .ok (.bipush 20, 2) := by decide +kernel
theorem dX12_count_41 : decode cX12_count 41 = .ok (.isub, 1) := by decide +kernel
theorem dX12_count_42 : decode cX12_count 42 = .ok (.iaload, 1) := by decide +kernel
theorem dX12_count_43 : decode cX12_count 43 = .ok (.ireturn, 1) := by decide +kernel
theorem dX12_count_44 : decode cX12_count 44 = .ok (.iload_n 1, 1) := by decide +kernel
theorem dX12_count_45 : decode cX12_count 45 = .ok (.bipush 30, 2) := by decide +kernel
theorem dX12_count_47 : decode cX12_count 47 = .ok (.if_icmp .lt 19, 3) := by decide +kernel
theorem dX12_count_50 : decode cX12_count 50 = .ok (.iload_n 1, 1) := by decide +kernel
theorem dX12_count_51 : decode cX12_count 51 = .ok (.bipush 33, 2) := by decide +kernel
theorem dX12_count_53 : decode cX12_count 53 = .ok (.if_icmp .gt 13, 3) := by decide +kernel
theorem dX12_count_56 : decode cX12_count 56 = .ok (.aload_n 0, 1) := by decide +kernel
theorem dX12_count_57 : decode cX12_count 57 = .ok (.getfield 796, 3) := by decide +kernel
theorem dX12_count_60 : decode cX12_count 60 = .ok (.iload_n 1, 1) := by decide +kernel
theorem dX12_count_61 : decode cX12_count 61 = .ok (.bipush 30, 2) := by decide +kernel
theorem dX12_count_63 : decode cX12_count 63 = .ok (.isub, 1) := by decide +kernel
theorem dX12_count_64 : decode cX12_count 64 = .ok (.iaload, 1) := by decide +kernel
theorem dX12_count_65 : decode cX12_count 65 = .ok (.ireturn, 1) := by decide +kernel
theorem dX12_count_66 : decode cX12_count 66 = .ok (.iload_n 1, 1) := by decide +kernel
theorem dX12_count_67 : decode cX12_count 67 = .ok (.tableswitch 106 0 7 #[45, 55, 60, 65, 70, 75, 80, 93], 45) := by decide +kernel
theorem dX12_count_112 : decode cX12_count 112 = .ok (.aload_n 0, 1) := by decide +kernel
theorem dX12_count_113 : decode cX12_count 113 = .ok (.getfield 563, 3) := by decide +kernel
theorem dX12_count_116 : decode cX12_count 116 = .ok (.aload_n 0, 1) := by decide +kernel
theorem dX12_count_117 : decode cX12_count 117 = .ok (.getfield 566, 3) := by decide +kernel
theorem dX12_count_120 : decode cX12_count 120 = .ok (.iadd, 1) := by decide +kernel
theorem dX12_count_121 : decode cX12_count 121 = .ok (.ireturn, 1) := by decide +kernel
theorem dX12_count_122 : decode cX12_count 122 = .ok (.aload_n 0, 1) := by decide +kernel
theorem dX12_count_123 : decode cX12_count 123 = .ok (.getfield 566, 3) := by decide +kernel
theorem dX12_count_126 : decode cX12_count 126 = .ok (.ireturn, 1) := by decide +kernel
theorem dX12_count_127 : decode cX12_count 127 = .ok (.aload_n 0, 1) := by decide +kernel
theorem dX12_count_128 : decode cX12_count 128 = .ok (.getfield 552, 3) := by decide +kernel
theorem fX12_552 : h_fl RX12 552 12 69 RX12 TX12 153 := ⟨rfl, by decide, inX12, h_t12 30 rfl rfl⟩
theorem dX12_count_131 : decode cX12_count 131 = .ok (.ireturn, 1) := by decide +kernel
theorem dX12_count_132 : decode cX12_count 132 = .ok (.aload_n 0, 1) := by decide +kernel
theorem dX12_count_133 : decode cX12_count 133 = .ok (.getfield 863, 3) := by decide +kernel
theorem dX12_count_136 : decode cX12_count 136 = .ok (.ireturn, 1) := by decide +kernel
theorem dX12_count_137 : decode cX12_count 137 = .ok (.aload_n 0, 1) := by decide +kernel
theorem dX12_count_138 : decode cX12_count 138 = .ok (.getfield 18, 3) := by decide +kernel
theorem dX12_count_141 : decode cX12_count 141 = .ok (.ireturn, 1) := by decide +kernel
theorem dX12_count_142 : decode cX12_count 142 = .ok (.aload_n 0, 1) := by decide +kernel
theorem dX12_count_143 : decode cX12_count 143 = .ok (.getfield 25, 3) := by decide +kernel
theorem dX12_count_146 : decode cX12_count 146 = .ok (.ireturn, 1) := by decide +kernel
theorem dX12_count_147 : decode cX12_count 147 = .ok (.aload_n 0, 1) := by decide +kernel
theorem dX12_count_148 : decode cX12_count 148 = .ok (.getfield 7, 3) := by decide +kernel
theorem dX12_count_151 : decode cX12_count 151 = .ok (.ifCond .eq 7, 3) := by decide +kernel
theorem dX12_count_154 : decode cX12_count 154 = .ok (.iconst 1, 1) := by decide +kernel
theorem dX12_count_155 : decode cX12_count 155 = .ok (.goto 4, 3) := by decide +kernel
theorem dX12_count_158 : decode cX12_count 158 = .ok (.iconst 0, 1) := by decide +kernel
theorem dX12_count_159 : decode cX12_count 159 = .ok (.ireturn, 1) := by decide +kernel
theorem dX12_count_160 : decode cX12_count 160 = .ok (.aload_n 0, 1) := by decide +kernel
theorem dX12_count_161 : decode cX12_count 161 = .ok (.getfield 11, 3) := by decide +kernel
theorem dX12_count_164 : decode cX12_count 164 = .ok (.ifCond .eq 7, 3) := by decide +kernel
theorem dX12_count_167 : decode cX12_count 167 = .ok (.iconst 1, 1) := by decide +kernel
theorem dX12_count_168 : decode cX12_count 168 = .ok (.goto 4, 3) := by decide +kernel
theorem dX12_count_171 : decode cX12_count 171 = .ok (.iconst 0, 1) := by decide +kernel
theorem dX12_count_172 : decode cX12_count 172 = .ok (.ireturn, 1) := by decide +kernel
theorem dX12_count_173 : decode cX12_count 173 = .ok (.iconst (-1), 1) := by decide +kernel
theorem dX12_count_174 : decode cX12_count 174 = .ok (.ireturn, 1) := by decide +kernel
set_option maxRecDepth 100000 in
set_option maxHeartbeats 4000000 in
theorem cm_tell_loop {l : Launch} {D : va_G} {A : Nat → ClassId} {B : Nat} {Z : State → Heap → Prop} {vF : Value} (hs : zs B Z vF) {d : Nat} (hd1 : 4 ≤ d) {σ : hS} {a n0 : Nat} (hla : a < n0) {v : Nat → Int32} {qs : Nat → List Int32} {s : Nat} (hs5 : s < 5) {sq w : Nat} {bs : List Nat} (hst : sC B Z sq w bs) (hbl : bs.length < 2 ^ 31) (hb : ∀ b ∈ bs, b < 128) :
  ∀ (n k : Nat) (τ : hS) (x : List Int32), bs.length + 1 ≤ k + n → k ≤ bs.length → x = q_adds (qs s) (bs.take k) → mqAt A τ n0 (qset qs s x) → τ.1 a = some (.inr (12, mFs n0 v)) → h_fr (fun q => n0 + 1 ≤ q ∧ q ≤ n0 + 6) σ τ →
    G l D (h_ty A) B Z mX12_tell d σ (fun σ1 w => w = none ∧ mqAt A σ1 n0 (qset qs s (q_adds (qs s) bs)) ∧ h_fr (fun q => n0 + 1 ≤ q ∧ q ≤ n0 + 6) σ σ1) τ 2 [(0, .ref a), (1, .int (nI s)), (2, .ref sq), (3, .int (nI k))] [] := by
  intro n
  induction n with
  | zero => intro k τ x h1 h2; omega
  | succ n ih =>
    intro k τ x h1 h2 hx h ha hfr
    refine g_iload_n dX12_tell_2 rfl (List.mem_of_getElem? (i := 3) rfl) ?_
    refine g_aload_n dX12_tell_3 rfl (List.mem_of_getElem? (i := 2) rfl) ?_
    refine g_cv (d1 := 1) (As := []) (st := [.int (nI k)]) (ct_len hs hst (by omega)) hst.rc kJ0_length_8abf5 lX12_58 sJ0_length_8abf5 (by omega) (Nat.le_of_ble_eq_true rfl) dX12_tell_4 (fun τ4 v4 h4 z4 => ?_)
    obtain ⟨rfl, rfl⟩ := h4
    show G _ _ _ _ _ _ _ _ _ _ 7 [(0, .ref a), (1, .int (nI s)), (2, .ref sq), (3, .int (nI k))] [.int (nI bs.length), .int (nI k)]
    refine g_icmp_ge (tgt := 26) dX12_tell_7 (by decide) (fun c7 => ?_) (fun c7 => ?_)
    · have c7 : bs.length ≤ k := (nI_leI (by omega) (by omega)).mp c7
      exact g_vret rfl dX12_tell_26 (⟨rfl, by rw [List.take_of_length_le c7] at hx; rw [← hx]; exact h, hfr⟩)
    · have hk : k < bs.length := Nat.lt_of_not_le fun x => c7 ((nI_leI (by omega) (by omega)).mpr x)
      refine g_aload_n dX12_tell_10 rfl (List.mem_of_getElem? (i := 0) rfl) ?_
      refine g_iload_n dX12_tell_11 rfl (List.mem_of_getElem? (i := 1) rfl) ?_
      refine g_aload_n dX12_tell_12 rfl (List.mem_of_getElem? (i := 2) rfl) ?_
      refine g_iload_n dX12_tell_13 rfl (List.mem_of_getElem? (i := 3) rfl) ?_
      refine g_cv (d1 := 3) (As := [.int (nI k)]) (st := [.int (nI s), .ref a]) (ct_charAt hs hst (k := k) hk hbl hb (by omega)) hst.rc kJ0_charAt_5068e lX12_64 sJ0_charAt_5068e (by omega) (Nat.le_of_ble_eq_true rfl) dX12_tell_14 (fun τ14 v14 h14 z14 => ?_)
      obtain ⟨rfl, rfl⟩ := h14
      show G _ _ _ _ _ _ _ _ _ _ 17 [(0, .ref a), (1, .int (nI s)), (2, .ref sq), (3, .int (nI k))] [.int (nI (bs.getD k 0)), .int (nI s), .ref a]
      refine g_cv (d1 := 0) (As := [.int (nI s), .int (nI (bs.getD k 0))]) (st := []) (cm_say hs.1 ha h hs5) (h_rcO (r := (RX12, TX12, 153)) ha rfl) kX12_say lX12_54 sX12_say (by omega) (Nat.le_of_ble_eq_true rfl) dX12_tell_17 (fun τ17 v17 h17 z17 => ?_)
      obtain ⟨rfl, h, hf17⟩ := h17
      have ha := (hf17.1 a (fun h => by omega)).trans ha
      show G _ _ _ _ _ _ _ _ _ _ 20 [(0, .ref a), (1, .int (nI s)), (2, .ref sq), (3, .int (nI k))] []
      refine g_iinc (v := nI (k + 1)) dX12_tell_20 (k := 3) rfl (nI_1 k) (by decide) rfl ?_
      refine g_goto (tgt := 2) dX12_tell_23 (by decide) ?_
      refine g_lv [1, 2, 3, 0] rfl ?_
      rw [qset_s, qset_2] at h
      exact ih (k + 1) _ _ (by omega) (by omega) (by rw [List.take_succ_eq_append_getElem hk]; unfold q_adds at hx ⊢; rw [List.foldl_append, ← hx]; simp only [List.foldl_cons, List.foldl_nil, List.getD_eq_getElem?_getD, List.getElem?_eq_getElem hk, Option.getD_some]) h ha (hfr.tr hf17)
set_option maxRecDepth 100000 in
set_option maxHeartbeats 4000000 in
/-- the reference: tell -/
theorem cm_tell {l : Launch} {D : va_G} {A : Nat → ClassId} {B : Nat} {Z : State → Heap → Prop} {vF : Value} (hs : zs B Z vF) {d : Nat} {σ : hS} (hd1 : 4 ≤ d) {a n0 : Nat} {v : Nat → Int32} (ha : σ.1 a = some (.inr (12, mFs n0 v))) (hla : a < n0) {qs : Nat → List Int32} (h : mqAt A σ n0 qs) {s : Nat} (hs5 : s < 5) {sq w : Nat} {bs : List Nat} (hst : sC B Z sq w bs) (hbl : bs.length < 2 ^ 31) (hb : ∀ b ∈ bs, b < 128) : Ct l D (h_ty A) B Z d mX12_tell σ [.ref a, .int (nI s), .ref sq] (fun σ1 w => w = none ∧ mqAt A σ1 n0 (qset qs s (q_adds (qs s) bs)) ∧ h_fr (fun q => n0 + 1 ≤ q ∧ q ≤ n0 + 6) σ σ1) := by
  refine ct_of rfl hs.1 (Nat.le_of_ble_eq_true rfl) ?_
  show G _ _ _ _ _ _ _ _ _ _ 0 [(0, .ref a), (1, .int (nI s)), (2, .ref sq)] []
  refine g_iconst (v := 0) dX12_tell_0 (by decide) ?_
  refine g_istore_n dX12_tell_1 rfl (by decide) rfl ?_
  refine g_lv [1, 2, 3, 0] rfl ?_
  exact cm_tell_loop hs hd1 hla hs5 hst hbl hb (bs.length + 1) 0 σ (qs s) (by omega) (by omega) rfl (by rw [qset_id]; exact h) ha h_fr.rf
set_option maxRecDepth 100000 in
set_option maxHeartbeats 4000000 in
/-- the reference: line -/
theorem cm_line {l : Launch} {D : va_G} {A : Nat → ClassId} {B : Nat} {Z : State → Heap → Prop} {vF : Value} (hs : zs B Z vF) {d : Nat} {σ : hS} (hd1 : 5 ≤ d) {a n0 : Nat} {v : Nat → Int32} (ha : σ.1 a = some (.inr (12, mFs n0 v))) (hla : a < n0) {qs : Nat → List Int32} (h : mqAt A σ n0 qs) {s : Nat} (hs5 : s < 5) {sq w : Nat} {bs : List Nat} (hst : sC B Z sq w bs) (hbl : bs.length < 2 ^ 31) (hb : ∀ b ∈ bs, b < 128) : Ct l D (h_ty A) B Z d mX12_line σ [.ref a, .int (nI s), .ref sq] (fun σ1 w => w = none ∧ mqAt A σ1 n0 (qset qs s (q_adds (qs s) (bs ++ CRLF))) ∧ h_fr (fun q => n0 + 1 ≤ q ∧ q ≤ n0 + 6) σ σ1) := by
  refine ct_of rfl hs.1 (Nat.le_of_ble_eq_true rfl) ?_
  show G _ _ _ _ _ _ _ _ _ _ 0 [(0, .ref a), (1, .int (nI s)), (2, .ref sq)] []
  refine g_aload_n dX12_line_0 rfl (List.mem_of_getElem? (i := 0) rfl) ?_
  refine g_iload_n dX12_line_1 rfl (List.mem_of_getElem? (i := 1) rfl) ?_
  refine g_aload_n dX12_line_2 rfl (List.mem_of_getElem? (i := 2) rfl) ?_
  refine g_cv (d1 := 4) (As := [.int (nI s), .ref sq]) (st := []) (cm_tell hs (by omega) ha hla h hs5 hst hbl hb) (h_rcO (r := (RX12, TX12, 153)) ha rfl) kX12_tell lX12_68 sX12_tell (by omega) (Nat.le_of_ble_eq_true rfl) dX12_line_3 (fun τ3 v3 h3 z3 => ?_)
  obtain ⟨rfl, h, hf3⟩ := h3
  have ha := (hf3.1 a (fun h => by omega)).trans ha
  show G _ _ _ _ _ _ _ _ _ _ 6 [(0, .ref a), (1, .int (nI s)), (2, .ref sq)] []
  refine g_aload_n dX12_line_6 rfl (List.mem_of_getElem? (i := 0) rfl) ?_
  refine g_iload_n dX12_line_7 rfl (List.mem_of_getElem? (i := 1) rfl) ?_
  refine g_bipush (v := 13) dX12_line_8 (by decide) ?_
  refine g_cv (d1 := 0) (As := [.int (nI s), .int 13]) (st := []) (cm_say hs.1 ha h hs5) (h_rcO (r := (RX12, TX12, 153)) ha rfl) kX12_say lX12_54 sX12_say (by omega) (Nat.le_of_ble_eq_true rfl) dX12_line_10 (fun τ10 v10 h10 z10 => ?_)
  obtain ⟨rfl, h, hf10⟩ := h10
  have ha := (hf10.1 a (fun h => by omega)).trans ha
  show G _ _ _ _ _ _ _ _ _ _ 13 [(0, .ref a), (1, .int (nI s)), (2, .ref sq)] []
  refine g_aload_n dX12_line_13 rfl (List.mem_of_getElem? (i := 0) rfl) ?_
  refine g_iload_n dX12_line_14 rfl (List.mem_of_getElem? (i := 1) rfl) ?_
  refine g_bipush (v := 10) dX12_line_15 (by decide) ?_
  refine g_cv (d1 := 0) (As := [.int (nI s), .int 10]) (st := []) (cm_say hs.1 ha h hs5) (h_rcO (r := (RX12, TX12, 153)) ha rfl) kX12_say lX12_54 sX12_say (by omega) (Nat.le_of_ble_eq_true rfl) dX12_line_17 (fun τ17 v17 h17 z17 => ?_)
  obtain ⟨rfl, h, hf17⟩ := h17
  have ha := (hf17.1 a (fun h => by omega)).trans ha
  show G _ _ _ _ _ _ _ _ _ _ 20 [(0, .ref a), (1, .int (nI s)), (2, .ref sq)] []
  exact g_vret rfl dX12_line_20 (⟨rfl, by rw [qset_s, qset_2, qset_s, qset_2] at h; unfold q_adds at h ⊢; rw [List.foldl_append]; exact h, hf3.tr (hf10.tr hf17)⟩)
set_option maxRecDepth 100000 in
set_option maxHeartbeats 4000000 in
/-- the reference: reset -/
theorem cm_reset {l : Launch} {D : va_G} {A : Nat → ClassId} {B : Nat} {Z : State → Heap → Prop} (hZ : h_st B Z) {d : Nat} {σ : hS} {a n0 : Nat} {v : Nat → Int32} (ha : σ.1 a = some (.inr (12, mFs n0 v))) : Ct l D (h_ty A) B Z d mX12_reset σ [.ref a] (fun σ1 w => w = none ∧ σ1.1 a = some (.inr (12, mFs n0 (upd (upd v 115 0) 117 0))) ∧ h_fr (fun q => q = a) σ σ1) := by
  refine ct_of rfl hZ (Nat.le_of_ble_eq_true rfl) ?_
  show G _ _ _ _ _ _ _ _ _ _ 0 [(0, .ref a)] []
  refine g_aload_n dX12_reset_0 rfl (List.mem_of_getElem? (i := 0) rfl) ?_
  refine g_iconst (v := 0) dX12_reset_1 (by decide) ?_
  refine g_putM (ft := .boolean) fX12_1029 rfl rfl ha (by decide +kernel) rfl rfl dX12_reset_2 ?_
  refine g_aload_n dX12_reset_5 rfl (List.mem_of_getElem? (i := 0) rfl) ?_
  refine g_iconst (v := 0) dX12_reset_6 (by decide) ?_
  refine g_putM (ft := .int) fX12_1032 rfl rfl h_e (by decide +kernel) rfl rfl dX12_reset_7 ?_
  exact g_vret rfl dX12_reset_10 (⟨rfl, h_e, ⟨fun q hq => h_n hq (h_n hq rfl), rfl⟩⟩)
theorem mq_fr {A : Nat → ClassId} {F : Nat → Prop} {σ σ1 : hS} {n0 : Nat} {qs : Nat → List Int32} (h : mqAt A σ n0 qs) (hf : h_fr F σ σ1) (h1 : ∀ s : Nat, s < 5 → ¬ F (n0 + 1 + s)) (h2 : ¬ F (n0 + 6)) : mqAt A σ1 n0 qs := by
  obtain ⟨ss, e1, e2⟩ := h
  refine ⟨ss, (hf.1 _ h2).trans e1, fun s hs => ?_⟩
  obtain ⟨g1, g2, f, g3, g4⟩ := e2 s hs
  exact ⟨g1, g2, f, (hf.1 _ (h1 s hs)).trans g3, g4⟩
set_option maxRecDepth 100000 in
set_option maxHeartbeats 4000000 in
/-- the reference: connect -/
theorem cm_connect {l : Launch} {D : va_G} {A : Nat → ClassId} {B : Nat} {Z : State → Heap → Prop} {vF : Value} (hs : zs B Z vF) {d : Nat} {σ : hS} {sq sw : Nat} (hsk : ∀ (U : State) (H : Heap), Z U H → vk_R RX12 1027 "220 here LMTP" sq U) (hst : sC B Z sq sw S220) {a n0 : Nat} {v : Nat → Int32} (ha : σ.1 a = some (.inr (12, mFs n0 v))) (hla : a < n0) {qs : Nat → List Int32} (h : mqAt A σ n0 qs) (hd1 : 6 ≤ d) : Ct l D (h_ty A) B Z d mX12_connect σ [.ref a] (fun σ1 w => ¬ v 0 = 0 ∧ w = some (.int 1) ∧ σ1.1 a = some (.inr (12, mFs n0 (upd (upd (upd (upd (upd (upd (upd v 113 1) 114 0) 115 0) 117 0) 116 0) 122 0) 123 0))) ∧ mqAt A σ1 n0 (qset qs 4 (q_adds (qs 4) (S220 ++ CRLF))) ∧ h_fr (fun q => q = a ∨ n0 + 1 ≤ q ∧ q ≤ n0 + 6) σ σ1 ∨ v 0 = 0 ∧ w = some (.int 0) ∧ σ1 = σ) := by
  refine ct_of rfl hs.1 (Nat.le_of_ble_eq_true rfl) ?_
  show G _ _ _ _ _ _ _ _ _ _ 0 [(0, .ref a)] []
  refine g_aload_n dX12_connect_0 rfl (List.mem_of_getElem? (i := 0) rfl) ?_
  refine g_get fX12_7 ha (v := .int (v 0)) (mFs_int (by decide) rfl) dX12_connect_1 ?_
  refine g_if_ne (tgt := 9) dX12_connect_4 (by decide) (fun c4 => ?_) (fun c4 => ?_)
  · have c4 := c4
    refine g_aload_n dX12_connect_9 rfl (List.mem_of_getElem? (i := 0) rfl) ?_
    refine g_iconst (v := 1) dX12_connect_10 (by decide) ?_
    refine g_putM (ft := .boolean) fX12_11 rfl rfl ha (by decide +kernel) rfl rfl dX12_connect_11 ?_
    refine g_aload_n dX12_connect_14 rfl (List.mem_of_getElem? (i := 0) rfl) ?_
    refine g_iconst (v := 0) dX12_connect_15 (by decide) ?_
    refine g_putM (ft := .boolean) fX12_1012 rfl rfl h_e (by decide +kernel) rfl rfl dX12_connect_16 ?_
    refine g_aload_n dX12_connect_19 rfl (List.mem_of_getElem? (i := 0) rfl) ?_
    refine g_cv (d1 := 0) (As := []) (st := []) (cm_reset hs.1 h_e) (h_rcO (r := (RX12, TX12, 153)) h_e rfl) kX12_reset lX12_1015 sX12_reset (by omega) (Nat.le_of_ble_eq_true rfl) dX12_connect_20 (fun τ20 v20 h20 z20 => ?_)
    obtain ⟨rfl, ga, gf⟩ := h20
    show G _ _ _ _ _ _ _ _ _ _ 23 [(0, .ref a)] []
    refine g_aload_n dX12_connect_23 rfl (List.mem_of_getElem? (i := 0) rfl) ?_
    refine g_iconst (v := 0) dX12_connect_24 (by decide) ?_
    refine g_putM (ft := .boolean) fX12_1018 rfl rfl ga (by decide +kernel) rfl rfl dX12_connect_25 ?_
    refine g_aload_n dX12_connect_28 rfl (List.mem_of_getElem? (i := 0) rfl) ?_
    refine g_iconst (v := 0) dX12_connect_29 (by decide) ?_
    refine g_putM (ft := .int) fX12_1021 rfl rfl h_e (by decide +kernel) rfl rfl dX12_connect_30 ?_
    refine g_aload_n dX12_connect_33 rfl (List.mem_of_getElem? (i := 0) rfl) ?_
    refine g_iconst (v := 0) dX12_connect_34 (by decide) ?_
    refine g_putM (ft := .boolean) fX12_1024 rfl rfl h_e (by decide +kernel) rfl rfl dX12_connect_35 ?_
    refine g_aload_n dX12_connect_38 rfl (List.mem_of_getElem? (i := 0) rfl) ?_
    refine g_iconst (v := 4) dX12_connect_39 (by decide) ?_
    refine g_ldcwS (q := sq) (fun U H hz => hsk U H hz) dX12_connect_40 ?_
    refine g_cv (d1 := 5) (As := [.int 4, .ref sq]) (st := []) (cm_line hs (by omega) (v := upd (upd (upd (upd (upd (upd (upd v 113 1) 114 0) 115 0) 117 0) 116 0) 122 0) 123 0) h_e hla (mq_fr (F := fun q => q = a) h ⟨fun q hq => h_n hq (h_n hq (h_n hq ((gf.1 q hq).trans (h_n hq (h_n hq rfl))))), gf.2⟩ (fun s hs e => by omega) (fun e => by omega)) (s := 4) (by decide) (bs := S220) hst (by decide) S220_b) (h_rcO (r := (RX12, TX12, 153)) h_e rfl) kX12_line lX12_974 sX12_line (by omega) (Nat.le_of_ble_eq_true rfl) dX12_connect_43 (fun τ43 v43 h43 z43 => ?_)
    obtain ⟨rfl, gq, gl⟩ := h43
    show G _ _ _ _ _ _ _ _ _ _ 46 [(0, .ref a)] []
    refine g_iconst (v := 1) dX12_connect_46 (by decide) ?_
    exact g_zret rfl rfl dX12_connect_47 (Or.inl ⟨c4, rfl, (gl.1 a (fun h => by omega)).trans h_e, gq, ⟨fun q hq => (gl.1 q (fun h => hq (Or.inr h))).trans (h_n (fun h => hq (Or.inl h)) (h_n (fun h => hq (Or.inl h)) (h_n (fun h => hq (Or.inl h)) ((gf.1 q (fun h => hq (Or.inl h))).trans (h_n (fun h => hq (Or.inl h)) (h_n (fun h => hq (Or.inl h)) rfl)))))), gl.2.trans gf.2⟩⟩)
  · have c4 := c4
    refine g_iconst (v := 0) dX12_connect_7 (by decide) ?_
    exact g_zret rfl rfl dX12_connect_8 (Or.inr ⟨c4, rfl, rfl⟩)
theorem cn_in {q : Int32} {lo : Nat} (hlo : lo < 1000) (h1 : nI lo ≤ q) (h2 : q ≤ nI (lo + 3)) : ∃ u : Nat, u < 4 ∧ q = nI (lo + u) := by
  have h0 : ¬ q < 0 := fun h => absurd (Int32.lt_of_le_of_lt h1 h) (nI_pos (by omega))
  obtain ⟨j, hj, rfl⟩ := nI_of h0
  have e1 := (nI_leI (a := lo) (b := j) (by omega) hj).mp h1
  have e2 := (nI_leI (a := j) (b := lo + 3) hj (by omega)).mp h2
  exact ⟨j - lo, by omega, by rw [show lo + (j - lo) = j by omega]⟩
theorem cn_out {q : Int32} {k u : Nat} (hk : k ≤ 3) (hu : u < 4) (e : q = nI (10 * k + u)) (h : q < nI (10 * k) ∨ nI (10 * k + 3) < q) : False := by
  subst e
  rcases h with h | h
  · exact absurd h (nI_nlt (by omega) (by omega))
  · exact absurd h (nI_nlt (by omega) (by omega))
set_option maxRecDepth 100000 in
set_option maxHeartbeats 4000000 in
/-- the reference: count -/
theorem cm_count {l : Launch} {D : va_G} {A : Nat → ClassId} {B : Nat} {Z : State → Heap → Prop} (hZ : h_st B Z) {d : Nat} {σ : hS} {a n0 : Nat} {v : Nat → Int32} (ha : σ.1 a = some (.inr (12, mFs n0 v))) {s1 s2 s3 : Nat → Int32} {sc nc bx : Nat → Nat} (h1 : σ.1 (n0 + 69) = some (.inl (A 0, 4, .inl s1))) (h2 : σ.1 (n0 + 49) = some (.inl (A 0, 4, .inl s2))) (h3 : σ.1 (n0 + 46) = some (.inl (A 0, 4, .inl s3))) (hv : ∀ u : Nat, u < 4 → s1 u = nI (sc u) ∧ s2 u = nI (nc u) ∧ s3 u = nI (bx u)) {q : Int32} : Ct l D (h_ty A) B Z d mX12_count σ [.ref a, .int q] (fun σ1 w => σ1 = σ ∧ ((∃ j : Nat, j ≤ 7 ∧ q = nI j ∧ w = some (.int (match j with | 0 => v 70 + v 71 | 1 => v 71 | 2 => v 69 | 3 => v 1 | 4 => v 2 | 5 => v 5 | 6 => (if v 0 = 0 then 0 else 1) | _ => (if v 113 = 0 then 0 else 1)))) ∨ (∀ j : Nat, j ≤ 7 → q ≠ nI j) ∧ ∃ r : Int32, w = some (.int r) ∧ ((∃ k u : Nat, 1 ≤ k ∧ k ≤ 3 ∧ u < 4 ∧ q = nI (10 * k + u) ∧ r = cU sc nc bx k u) ∨ ¬ (∃ k u : Nat, 1 ≤ k ∧ k ≤ 3 ∧ u < 4 ∧ q = nI (10 * k + u)) ∧ r = -1))) := by
  refine ct_of rfl hZ (Nat.le_of_ble_eq_true rfl) ?_
  show G _ _ _ _ _ _ _ _ _ _ 0 [(0, .ref a), (1, .int q)] []
  refine g_iload_n dX12_count_0 rfl (List.mem_of_getElem? (i := 1) rfl) ?_
  refine g_bipush (v := 10) dX12_count_1 (by decide) ?_
  refine g_icmp_lt (tgt := 22) dX12_count_3 (by decide) (fun c3 => ?_) (fun c3 => ?_)
  · have o1 : q < nI 10 ∨ nI 13 < q := Or.inl c3
    refine g_iload_n dX12_count_22 rfl (List.mem_of_getElem? (i := 1) rfl) ?_
    refine g_bipush (v := 20) dX12_count_23 (by decide) ?_
    refine g_icmp_lt (tgt := 44) dX12_count_25 (by decide) (fun c25 => ?_) (fun c25 => ?_)
    · have o2 : q < nI 20 ∨ nI 23 < q := Or.inl c25
      refine g_iload_n dX12_count_44 rfl (List.mem_of_getElem? (i := 1) rfl) ?_
      refine g_bipush (v := 30) dX12_count_45 (by decide) ?_
      refine g_icmp_lt (tgt := 66) dX12_count_47 (by decide) (fun c47 => ?_) (fun c47 => ?_)
      · have o3 : q < nI 30 ∨ nI 33 < q := Or.inl c47
        refine g_iload_n dX12_count_66 rfl (List.mem_of_getElem? (i := 1) rfl) ?_
        rcases sw_n q 7 (by decide) with ⟨j67, hj67, rfl⟩ | hout67
        · rcases (show j67 = 0 ∨ j67 = 1 ∨ j67 = 2 ∨ j67 = 3 ∨ j67 = 4 ∨ j67 = 5 ∨ j67 = 6 ∨ j67 = 7 by omega) with rfl | rfl | rfl | rfl | rfl | rfl | rfl | rfl
          · refine g_tableIn (tgt := 112) (off := 45) dX12_count_67 (by decide) (by decide) rfl (by decide) ?_
            refine g_aload_n dX12_count_112 rfl (List.mem_of_getElem? (i := 0) rfl) ?_
            refine g_get fX12_563 ha (v := .int (v 70)) (mFs_int (by decide) rfl) dX12_count_113 ?_
            refine g_aload_n dX12_count_116 rfl (List.mem_of_getElem? (i := 0) rfl) ?_
            refine g_get fX12_566 ha (v := .int (v 71)) (mFs_int (by decide) rfl) dX12_count_117 ?_
            refine g_iadd dX12_count_120 ?_
            exact g_iret rfl dX12_count_121 (⟨rfl, Or.inl ⟨0, by decide, rfl, rfl⟩⟩)
          · refine g_tableIn (tgt := 122) (off := 55) dX12_count_67 (by decide) (by decide) rfl (by decide) ?_
            refine g_aload_n dX12_count_122 rfl (List.mem_of_getElem? (i := 0) rfl) ?_
            refine g_get fX12_566 ha (v := .int (v 71)) (mFs_int (by decide) rfl) dX12_count_123 ?_
            exact g_iret rfl dX12_count_126 (⟨rfl, Or.inl ⟨1, by decide, rfl, rfl⟩⟩)
          · refine g_tableIn (tgt := 127) (off := 60) dX12_count_67 (by decide) (by decide) rfl (by decide) ?_
            refine g_aload_n dX12_count_127 rfl (List.mem_of_getElem? (i := 0) rfl) ?_
            refine g_get fX12_552 ha (v := .int (v 69)) (mFs_int (by decide) rfl) dX12_count_128 ?_
            exact g_iret rfl dX12_count_131 (⟨rfl, Or.inl ⟨2, by decide, rfl, rfl⟩⟩)
          · refine g_tableIn (tgt := 132) (off := 65) dX12_count_67 (by decide) (by decide) rfl (by decide) ?_
            refine g_aload_n dX12_count_132 rfl (List.mem_of_getElem? (i := 0) rfl) ?_
            refine g_get fX12_863 ha (v := .int (v 1)) (mFs_int (by decide) rfl) dX12_count_133 ?_
            exact g_iret rfl dX12_count_136 (⟨rfl, Or.inl ⟨3, by decide, rfl, rfl⟩⟩)
          · refine g_tableIn (tgt := 137) (off := 70) dX12_count_67 (by decide) (by decide) rfl (by decide) ?_
            refine g_aload_n dX12_count_137 rfl (List.mem_of_getElem? (i := 0) rfl) ?_
            refine g_get fX12_18 ha (v := .int (v 2)) (mFs_int (by decide) rfl) dX12_count_138 ?_
            exact g_iret rfl dX12_count_141 (⟨rfl, Or.inl ⟨4, by decide, rfl, rfl⟩⟩)
          · refine g_tableIn (tgt := 142) (off := 75) dX12_count_67 (by decide) (by decide) rfl (by decide) ?_
            refine g_aload_n dX12_count_142 rfl (List.mem_of_getElem? (i := 0) rfl) ?_
            refine g_get fX12_25 ha (v := .int (v 5)) (mFs_int (by decide) rfl) dX12_count_143 ?_
            exact g_iret rfl dX12_count_146 (⟨rfl, Or.inl ⟨5, by decide, rfl, rfl⟩⟩)
          · refine g_tableIn (tgt := 147) (off := 80) dX12_count_67 (by decide) (by decide) rfl (by decide) ?_
            refine g_aload_n dX12_count_147 rfl (List.mem_of_getElem? (i := 0) rfl) ?_
            refine g_get fX12_7 ha (v := .int (v 0)) (mFs_int (by decide) rfl) dX12_count_148 ?_
            refine g_if_eq (tgt := 158) dX12_count_151 (by decide) (fun c151 => ?_) (fun c151 => ?_)
            · have c151 := c151
              refine g_iconst (v := 0) dX12_count_158 (by decide) ?_
              exact g_iret rfl dX12_count_159 (⟨rfl, Or.inl ⟨6, by decide, rfl, by show _ = some (Value.int (if _ = 0 then 0 else 1)); rw [if_pos c151]⟩⟩)
            · have c151 := c151
              refine g_iconst (v := 1) dX12_count_154 (by decide) ?_
              refine g_goto (tgt := 159) dX12_count_155 (by decide) ?_
              exact g_iret rfl dX12_count_159 (⟨rfl, Or.inl ⟨6, by decide, rfl, by show _ = some (Value.int (if _ = 0 then 0 else 1)); rw [if_neg c151]⟩⟩)
          · refine g_tableIn (tgt := 160) (off := 93) dX12_count_67 (by decide) (by decide) rfl (by decide) ?_
            refine g_aload_n dX12_count_160 rfl (List.mem_of_getElem? (i := 0) rfl) ?_
            refine g_get fX12_11 ha (v := .int (v 113)) (mFs_int (by decide) rfl) dX12_count_161 ?_
            refine g_if_eq (tgt := 171) dX12_count_164 (by decide) (fun c164 => ?_) (fun c164 => ?_)
            · have c164 := c164
              refine g_iconst (v := 0) dX12_count_171 (by decide) ?_
              exact g_iret rfl dX12_count_172 (⟨rfl, Or.inl ⟨7, by decide, rfl, by show _ = some (Value.int (if _ = 0 then 0 else 1)); rw [if_pos c164]⟩⟩)
            · have c164 := c164
              refine g_iconst (v := 1) dX12_count_167 (by decide) ?_
              refine g_goto (tgt := 172) dX12_count_168 (by decide) ?_
              exact g_iret rfl dX12_count_172 (⟨rfl, Or.inl ⟨7, by decide, rfl, by show _ = some (Value.int (if _ = 0 then 0 else 1)); rw [if_neg c164]⟩⟩)
        · refine g_tableOut (tgt := 173) dX12_count_67 (by omega) (by decide) ?_
          refine g_iconst (v := -1) dX12_count_173 (by decide) ?_
          exact g_iret rfl dX12_count_174 (⟨rfl, Or.inr ⟨sw_ne (by decide) hout67, _, rfl, Or.inr ⟨fun ⟨k, u, k1, k3, hu, e⟩ => by
              rcases (show k = 1 ∨ k = 2 ∨ k = 3 by omega) with rfl | rfl | rfl
              · exact cn_out (by decide) hu e o1
              · exact cn_out (by decide) hu e o2
              · exact cn_out (by decide) hu e o3, rfl⟩⟩⟩)
      · have c47 := c47
        refine g_iload_n dX12_count_50 rfl (List.mem_of_getElem? (i := 1) rfl) ?_
        refine g_bipush (v := 33) dX12_count_51 (by decide) ?_
        refine g_icmp_gt (tgt := 66) dX12_count_53 (by decide) (fun c53 => ?_) (fun c53 => ?_)
        · have o3 : q < nI 30 ∨ nI 33 < q := Or.inr c53
          refine g_iload_n dX12_count_66 rfl (List.mem_of_getElem? (i := 1) rfl) ?_
          rcases sw_n q 7 (by decide) with ⟨j67, hj67, rfl⟩ | hout67
          · rcases (show j67 = 0 ∨ j67 = 1 ∨ j67 = 2 ∨ j67 = 3 ∨ j67 = 4 ∨ j67 = 5 ∨ j67 = 6 ∨ j67 = 7 by omega) with rfl | rfl | rfl | rfl | rfl | rfl | rfl | rfl
            · refine g_tableIn (tgt := 112) (off := 45) dX12_count_67 (by decide) (by decide) rfl (by decide) ?_
              refine g_aload_n dX12_count_112 rfl (List.mem_of_getElem? (i := 0) rfl) ?_
              refine g_get fX12_563 ha (v := .int (v 70)) (mFs_int (by decide) rfl) dX12_count_113 ?_
              refine g_aload_n dX12_count_116 rfl (List.mem_of_getElem? (i := 0) rfl) ?_
              refine g_get fX12_566 ha (v := .int (v 71)) (mFs_int (by decide) rfl) dX12_count_117 ?_
              refine g_iadd dX12_count_120 ?_
              exact g_iret rfl dX12_count_121 (⟨rfl, Or.inl ⟨0, by decide, rfl, rfl⟩⟩)
            · refine g_tableIn (tgt := 122) (off := 55) dX12_count_67 (by decide) (by decide) rfl (by decide) ?_
              refine g_aload_n dX12_count_122 rfl (List.mem_of_getElem? (i := 0) rfl) ?_
              refine g_get fX12_566 ha (v := .int (v 71)) (mFs_int (by decide) rfl) dX12_count_123 ?_
              exact g_iret rfl dX12_count_126 (⟨rfl, Or.inl ⟨1, by decide, rfl, rfl⟩⟩)
            · refine g_tableIn (tgt := 127) (off := 60) dX12_count_67 (by decide) (by decide) rfl (by decide) ?_
              refine g_aload_n dX12_count_127 rfl (List.mem_of_getElem? (i := 0) rfl) ?_
              refine g_get fX12_552 ha (v := .int (v 69)) (mFs_int (by decide) rfl) dX12_count_128 ?_
              exact g_iret rfl dX12_count_131 (⟨rfl, Or.inl ⟨2, by decide, rfl, rfl⟩⟩)
            · refine g_tableIn (tgt := 132) (off := 65) dX12_count_67 (by decide) (by decide) rfl (by decide) ?_
              refine g_aload_n dX12_count_132 rfl (List.mem_of_getElem? (i := 0) rfl) ?_
              refine g_get fX12_863 ha (v := .int (v 1)) (mFs_int (by decide) rfl) dX12_count_133 ?_
              exact g_iret rfl dX12_count_136 (⟨rfl, Or.inl ⟨3, by decide, rfl, rfl⟩⟩)
            · refine g_tableIn (tgt := 137) (off := 70) dX12_count_67 (by decide) (by decide) rfl (by decide) ?_
              refine g_aload_n dX12_count_137 rfl (List.mem_of_getElem? (i := 0) rfl) ?_
              refine g_get fX12_18 ha (v := .int (v 2)) (mFs_int (by decide) rfl) dX12_count_138 ?_
              exact g_iret rfl dX12_count_141 (⟨rfl, Or.inl ⟨4, by decide, rfl, rfl⟩⟩)
            · refine g_tableIn (tgt := 142) (off := 75) dX12_count_67 (by decide) (by decide) rfl (by decide) ?_
              refine g_aload_n dX12_count_142 rfl (List.mem_of_getElem? (i := 0) rfl) ?_
              refine g_get fX12_25 ha (v := .int (v 5)) (mFs_int (by decide) rfl) dX12_count_143 ?_
              exact g_iret rfl dX12_count_146 (⟨rfl, Or.inl ⟨5, by decide, rfl, rfl⟩⟩)
            · refine g_tableIn (tgt := 147) (off := 80) dX12_count_67 (by decide) (by decide) rfl (by decide) ?_
              refine g_aload_n dX12_count_147 rfl (List.mem_of_getElem? (i := 0) rfl) ?_
              refine g_get fX12_7 ha (v := .int (v 0)) (mFs_int (by decide) rfl) dX12_count_148 ?_
              refine g_if_eq (tgt := 158) dX12_count_151 (by decide) (fun c151 => ?_) (fun c151 => ?_)
              · have c151 := c151
                refine g_iconst (v := 0) dX12_count_158 (by decide) ?_
                exact g_iret rfl dX12_count_159 (⟨rfl, Or.inl ⟨6, by decide, rfl, by show _ = some (Value.int (if _ = 0 then 0 else 1)); rw [if_pos c151]⟩⟩)
              · have c151 := c151
                refine g_iconst (v := 1) dX12_count_154 (by decide) ?_
                refine g_goto (tgt := 159) dX12_count_155 (by decide) ?_
                exact g_iret rfl dX12_count_159 (⟨rfl, Or.inl ⟨6, by decide, rfl, by show _ = some (Value.int (if _ = 0 then 0 else 1)); rw [if_neg c151]⟩⟩)
            · refine g_tableIn (tgt := 160) (off := 93) dX12_count_67 (by decide) (by decide) rfl (by decide) ?_
              refine g_aload_n dX12_count_160 rfl (List.mem_of_getElem? (i := 0) rfl) ?_
              refine g_get fX12_11 ha (v := .int (v 113)) (mFs_int (by decide) rfl) dX12_count_161 ?_
              refine g_if_eq (tgt := 171) dX12_count_164 (by decide) (fun c164 => ?_) (fun c164 => ?_)
              · have c164 := c164
                refine g_iconst (v := 0) dX12_count_171 (by decide) ?_
                exact g_iret rfl dX12_count_172 (⟨rfl, Or.inl ⟨7, by decide, rfl, by show _ = some (Value.int (if _ = 0 then 0 else 1)); rw [if_pos c164]⟩⟩)
              · have c164 := c164
                refine g_iconst (v := 1) dX12_count_167 (by decide) ?_
                refine g_goto (tgt := 172) dX12_count_168 (by decide) ?_
                exact g_iret rfl dX12_count_172 (⟨rfl, Or.inl ⟨7, by decide, rfl, by show _ = some (Value.int (if _ = 0 then 0 else 1)); rw [if_neg c164]⟩⟩)
          · refine g_tableOut (tgt := 173) dX12_count_67 (by omega) (by decide) ?_
            refine g_iconst (v := -1) dX12_count_173 (by decide) ?_
            exact g_iret rfl dX12_count_174 (⟨rfl, Or.inr ⟨sw_ne (by decide) hout67, _, rfl, Or.inr ⟨fun ⟨k, u, k1, k3, hu, e⟩ => by
                rcases (show k = 1 ∨ k = 2 ∨ k = 3 by omega) with rfl | rfl | rfl
                · exact cn_out (by decide) hu e o1
                · exact cn_out (by decide) hu e o2
                · exact cn_out (by decide) hu e o3, rfl⟩⟩⟩)
        · obtain ⟨u, hu, rfl⟩ : ∃ u : Nat, u < 4 ∧ q = nI (30 + u) := cn_in (lo := 30) (by decide) (Int32.not_lt.mp c47) (Int32.not_lt.mp c53)
          refine g_aload_n dX12_count_56 rfl (List.mem_of_getElem? (i := 0) rfl) ?_
          refine g_get fX12_796 ha (v := .ref (n0 + 46)) (mFs_get (by decide) rfl) dX12_count_57 ?_
          refine g_iload_n dX12_count_60 rfl (List.mem_of_getElem? (i := 1) rfl) ?_
          refine g_bipush (v := 30) dX12_count_61 (by decide) ?_
          refine g_isub dX12_count_63 ?_
          refine g_eqi (nI u) (by show nI (30 + u) - nI 30 = _; rw [pk_sub (by omega), show 30 + u - 30 = u by omega]) ?_
          refine g_iald (t0 := 0) rfl h3 (vp_in_nI hu (by decide)) dX12_count_64 ?_
          refine g_eqi (nI (bx u)) (by rw [nI_clamp (by omega)]; exact (hv u hu).2.2) ?_
          exact g_iret rfl dX12_count_65 (⟨rfl, Or.inr ⟨fun j hj e => absurd ((nI_eq (by omega) (by omega)).mp e) (by omega), _, rfl, Or.inl ⟨3, u, by decide, by decide, hu, rfl, rfl⟩⟩⟩)
    · have c25 := c25
      refine g_iload_n dX12_count_28 rfl (List.mem_of_getElem? (i := 1) rfl) ?_
      refine g_bipush (v := 23) dX12_count_29 (by decide) ?_
      refine g_icmp_gt (tgt := 44) dX12_count_31 (by decide) (fun c31 => ?_) (fun c31 => ?_)
      · have o2 : q < nI 20 ∨ nI 23 < q := Or.inr c31
        refine g_iload_n dX12_count_44 rfl (List.mem_of_getElem? (i := 1) rfl) ?_
        refine g_bipush (v := 30) dX12_count_45 (by decide) ?_
        refine g_icmp_lt (tgt := 66) dX12_count_47 (by decide) (fun c47 => ?_) (fun c47 => ?_)
        · have o3 : q < nI 30 ∨ nI 33 < q := Or.inl c47
          refine g_iload_n dX12_count_66 rfl (List.mem_of_getElem? (i := 1) rfl) ?_
          rcases sw_n q 7 (by decide) with ⟨j67, hj67, rfl⟩ | hout67
          · rcases (show j67 = 0 ∨ j67 = 1 ∨ j67 = 2 ∨ j67 = 3 ∨ j67 = 4 ∨ j67 = 5 ∨ j67 = 6 ∨ j67 = 7 by omega) with rfl | rfl | rfl | rfl | rfl | rfl | rfl | rfl
            · refine g_tableIn (tgt := 112) (off := 45) dX12_count_67 (by decide) (by decide) rfl (by decide) ?_
              refine g_aload_n dX12_count_112 rfl (List.mem_of_getElem? (i := 0) rfl) ?_
              refine g_get fX12_563 ha (v := .int (v 70)) (mFs_int (by decide) rfl) dX12_count_113 ?_
              refine g_aload_n dX12_count_116 rfl (List.mem_of_getElem? (i := 0) rfl) ?_
              refine g_get fX12_566 ha (v := .int (v 71)) (mFs_int (by decide) rfl) dX12_count_117 ?_
              refine g_iadd dX12_count_120 ?_
              exact g_iret rfl dX12_count_121 (⟨rfl, Or.inl ⟨0, by decide, rfl, rfl⟩⟩)
            · refine g_tableIn (tgt := 122) (off := 55) dX12_count_67 (by decide) (by decide) rfl (by decide) ?_
              refine g_aload_n dX12_count_122 rfl (List.mem_of_getElem? (i := 0) rfl) ?_
              refine g_get fX12_566 ha (v := .int (v 71)) (mFs_int (by decide) rfl) dX12_count_123 ?_
              exact g_iret rfl dX12_count_126 (⟨rfl, Or.inl ⟨1, by decide, rfl, rfl⟩⟩)
            · refine g_tableIn (tgt := 127) (off := 60) dX12_count_67 (by decide) (by decide) rfl (by decide) ?_
              refine g_aload_n dX12_count_127 rfl (List.mem_of_getElem? (i := 0) rfl) ?_
              refine g_get fX12_552 ha (v := .int (v 69)) (mFs_int (by decide) rfl) dX12_count_128 ?_
              exact g_iret rfl dX12_count_131 (⟨rfl, Or.inl ⟨2, by decide, rfl, rfl⟩⟩)
            · refine g_tableIn (tgt := 132) (off := 65) dX12_count_67 (by decide) (by decide) rfl (by decide) ?_
              refine g_aload_n dX12_count_132 rfl (List.mem_of_getElem? (i := 0) rfl) ?_
              refine g_get fX12_863 ha (v := .int (v 1)) (mFs_int (by decide) rfl) dX12_count_133 ?_
              exact g_iret rfl dX12_count_136 (⟨rfl, Or.inl ⟨3, by decide, rfl, rfl⟩⟩)
            · refine g_tableIn (tgt := 137) (off := 70) dX12_count_67 (by decide) (by decide) rfl (by decide) ?_
              refine g_aload_n dX12_count_137 rfl (List.mem_of_getElem? (i := 0) rfl) ?_
              refine g_get fX12_18 ha (v := .int (v 2)) (mFs_int (by decide) rfl) dX12_count_138 ?_
              exact g_iret rfl dX12_count_141 (⟨rfl, Or.inl ⟨4, by decide, rfl, rfl⟩⟩)
            · refine g_tableIn (tgt := 142) (off := 75) dX12_count_67 (by decide) (by decide) rfl (by decide) ?_
              refine g_aload_n dX12_count_142 rfl (List.mem_of_getElem? (i := 0) rfl) ?_
              refine g_get fX12_25 ha (v := .int (v 5)) (mFs_int (by decide) rfl) dX12_count_143 ?_
              exact g_iret rfl dX12_count_146 (⟨rfl, Or.inl ⟨5, by decide, rfl, rfl⟩⟩)
            · refine g_tableIn (tgt := 147) (off := 80) dX12_count_67 (by decide) (by decide) rfl (by decide) ?_
              refine g_aload_n dX12_count_147 rfl (List.mem_of_getElem? (i := 0) rfl) ?_
              refine g_get fX12_7 ha (v := .int (v 0)) (mFs_int (by decide) rfl) dX12_count_148 ?_
              refine g_if_eq (tgt := 158) dX12_count_151 (by decide) (fun c151 => ?_) (fun c151 => ?_)
              · have c151 := c151
                refine g_iconst (v := 0) dX12_count_158 (by decide) ?_
                exact g_iret rfl dX12_count_159 (⟨rfl, Or.inl ⟨6, by decide, rfl, by show _ = some (Value.int (if _ = 0 then 0 else 1)); rw [if_pos c151]⟩⟩)
              · have c151 := c151
                refine g_iconst (v := 1) dX12_count_154 (by decide) ?_
                refine g_goto (tgt := 159) dX12_count_155 (by decide) ?_
                exact g_iret rfl dX12_count_159 (⟨rfl, Or.inl ⟨6, by decide, rfl, by show _ = some (Value.int (if _ = 0 then 0 else 1)); rw [if_neg c151]⟩⟩)
            · refine g_tableIn (tgt := 160) (off := 93) dX12_count_67 (by decide) (by decide) rfl (by decide) ?_
              refine g_aload_n dX12_count_160 rfl (List.mem_of_getElem? (i := 0) rfl) ?_
              refine g_get fX12_11 ha (v := .int (v 113)) (mFs_int (by decide) rfl) dX12_count_161 ?_
              refine g_if_eq (tgt := 171) dX12_count_164 (by decide) (fun c164 => ?_) (fun c164 => ?_)
              · have c164 := c164
                refine g_iconst (v := 0) dX12_count_171 (by decide) ?_
                exact g_iret rfl dX12_count_172 (⟨rfl, Or.inl ⟨7, by decide, rfl, by show _ = some (Value.int (if _ = 0 then 0 else 1)); rw [if_pos c164]⟩⟩)
              · have c164 := c164
                refine g_iconst (v := 1) dX12_count_167 (by decide) ?_
                refine g_goto (tgt := 172) dX12_count_168 (by decide) ?_
                exact g_iret rfl dX12_count_172 (⟨rfl, Or.inl ⟨7, by decide, rfl, by show _ = some (Value.int (if _ = 0 then 0 else 1)); rw [if_neg c164]⟩⟩)
          · refine g_tableOut (tgt := 173) dX12_count_67 (by omega) (by decide) ?_
            refine g_iconst (v := -1) dX12_count_173 (by decide) ?_
            exact g_iret rfl dX12_count_174 (⟨rfl, Or.inr ⟨sw_ne (by decide) hout67, _, rfl, Or.inr ⟨fun ⟨k, u, k1, k3, hu, e⟩ => by
                rcases (show k = 1 ∨ k = 2 ∨ k = 3 by omega) with rfl | rfl | rfl
                · exact cn_out (by decide) hu e o1
                · exact cn_out (by decide) hu e o2
                · exact cn_out (by decide) hu e o3, rfl⟩⟩⟩)
        · have c47 := c47
          refine g_iload_n dX12_count_50 rfl (List.mem_of_getElem? (i := 1) rfl) ?_
          refine g_bipush (v := 33) dX12_count_51 (by decide) ?_
          refine g_icmp_gt (tgt := 66) dX12_count_53 (by decide) (fun c53 => ?_) (fun c53 => ?_)
          · have o3 : q < nI 30 ∨ nI 33 < q := Or.inr c53
            refine g_iload_n dX12_count_66 rfl (List.mem_of_getElem? (i := 1) rfl) ?_
            rcases sw_n q 7 (by decide) with ⟨j67, hj67, rfl⟩ | hout67
            · rcases (show j67 = 0 ∨ j67 = 1 ∨ j67 = 2 ∨ j67 = 3 ∨ j67 = 4 ∨ j67 = 5 ∨ j67 = 6 ∨ j67 = 7 by omega) with rfl | rfl | rfl | rfl | rfl | rfl | rfl | rfl
              · refine g_tableIn (tgt := 112) (off := 45) dX12_count_67 (by decide) (by decide) rfl (by decide) ?_
                refine g_aload_n dX12_count_112 rfl (List.mem_of_getElem? (i := 0) rfl) ?_
                refine g_get fX12_563 ha (v := .int (v 70)) (mFs_int (by decide) rfl) dX12_count_113 ?_
                refine g_aload_n dX12_count_116 rfl (List.mem_of_getElem? (i := 0) rfl) ?_
                refine g_get fX12_566 ha (v := .int (v 71)) (mFs_int (by decide) rfl) dX12_count_117 ?_
                refine g_iadd dX12_count_120 ?_
                exact g_iret rfl dX12_count_121 (⟨rfl, Or.inl ⟨0, by decide, rfl, rfl⟩⟩)
              · refine g_tableIn (tgt := 122) (off := 55) dX12_count_67 (by decide) (by decide) rfl (by decide) ?_
                refine g_aload_n dX12_count_122 rfl (List.mem_of_getElem? (i := 0) rfl) ?_
                refine g_get fX12_566 ha (v := .int (v 71)) (mFs_int (by decide) rfl) dX12_count_123 ?_
                exact g_iret rfl dX12_count_126 (⟨rfl, Or.inl ⟨1, by decide, rfl, rfl⟩⟩)
              · refine g_tableIn (tgt := 127) (off := 60) dX12_count_67 (by decide) (by decide) rfl (by decide) ?_
                refine g_aload_n dX12_count_127 rfl (List.mem_of_getElem? (i := 0) rfl) ?_
                refine g_get fX12_552 ha (v := .int (v 69)) (mFs_int (by decide) rfl) dX12_count_128 ?_
                exact g_iret rfl dX12_count_131 (⟨rfl, Or.inl ⟨2, by decide, rfl, rfl⟩⟩)
              · refine g_tableIn (tgt := 132) (off := 65) dX12_count_67 (by decide) (by decide) rfl (by decide) ?_
                refine g_aload_n dX12_count_132 rfl (List.mem_of_getElem? (i := 0) rfl) ?_
                refine g_get fX12_863 ha (v := .int (v 1)) (mFs_int (by decide) rfl) dX12_count_133 ?_
                exact g_iret rfl dX12_count_136 (⟨rfl, Or.inl ⟨3, by decide, rfl, rfl⟩⟩)
              · refine g_tableIn (tgt := 137) (off := 70) dX12_count_67 (by decide) (by decide) rfl (by decide) ?_
                refine g_aload_n dX12_count_137 rfl (List.mem_of_getElem? (i := 0) rfl) ?_
                refine g_get fX12_18 ha (v := .int (v 2)) (mFs_int (by decide) rfl) dX12_count_138 ?_
                exact g_iret rfl dX12_count_141 (⟨rfl, Or.inl ⟨4, by decide, rfl, rfl⟩⟩)
              · refine g_tableIn (tgt := 142) (off := 75) dX12_count_67 (by decide) (by decide) rfl (by decide) ?_
                refine g_aload_n dX12_count_142 rfl (List.mem_of_getElem? (i := 0) rfl) ?_
                refine g_get fX12_25 ha (v := .int (v 5)) (mFs_int (by decide) rfl) dX12_count_143 ?_
                exact g_iret rfl dX12_count_146 (⟨rfl, Or.inl ⟨5, by decide, rfl, rfl⟩⟩)
              · refine g_tableIn (tgt := 147) (off := 80) dX12_count_67 (by decide) (by decide) rfl (by decide) ?_
                refine g_aload_n dX12_count_147 rfl (List.mem_of_getElem? (i := 0) rfl) ?_
                refine g_get fX12_7 ha (v := .int (v 0)) (mFs_int (by decide) rfl) dX12_count_148 ?_
                refine g_if_eq (tgt := 158) dX12_count_151 (by decide) (fun c151 => ?_) (fun c151 => ?_)
                · have c151 := c151
                  refine g_iconst (v := 0) dX12_count_158 (by decide) ?_
                  exact g_iret rfl dX12_count_159 (⟨rfl, Or.inl ⟨6, by decide, rfl, by show _ = some (Value.int (if _ = 0 then 0 else 1)); rw [if_pos c151]⟩⟩)
                · have c151 := c151
                  refine g_iconst (v := 1) dX12_count_154 (by decide) ?_
                  refine g_goto (tgt := 159) dX12_count_155 (by decide) ?_
                  exact g_iret rfl dX12_count_159 (⟨rfl, Or.inl ⟨6, by decide, rfl, by show _ = some (Value.int (if _ = 0 then 0 else 1)); rw [if_neg c151]⟩⟩)
              · refine g_tableIn (tgt := 160) (off := 93) dX12_count_67 (by decide) (by decide) rfl (by decide) ?_
                refine g_aload_n dX12_count_160 rfl (List.mem_of_getElem? (i := 0) rfl) ?_
                refine g_get fX12_11 ha (v := .int (v 113)) (mFs_int (by decide) rfl) dX12_count_161 ?_
                refine g_if_eq (tgt := 171) dX12_count_164 (by decide) (fun c164 => ?_) (fun c164 => ?_)
                · have c164 := c164
                  refine g_iconst (v := 0) dX12_count_171 (by decide) ?_
                  exact g_iret rfl dX12_count_172 (⟨rfl, Or.inl ⟨7, by decide, rfl, by show _ = some (Value.int (if _ = 0 then 0 else 1)); rw [if_pos c164]⟩⟩)
                · have c164 := c164
                  refine g_iconst (v := 1) dX12_count_167 (by decide) ?_
                  refine g_goto (tgt := 172) dX12_count_168 (by decide) ?_
                  exact g_iret rfl dX12_count_172 (⟨rfl, Or.inl ⟨7, by decide, rfl, by show _ = some (Value.int (if _ = 0 then 0 else 1)); rw [if_neg c164]⟩⟩)
            · refine g_tableOut (tgt := 173) dX12_count_67 (by omega) (by decide) ?_
              refine g_iconst (v := -1) dX12_count_173 (by decide) ?_
              exact g_iret rfl dX12_count_174 (⟨rfl, Or.inr ⟨sw_ne (by decide) hout67, _, rfl, Or.inr ⟨fun ⟨k, u, k1, k3, hu, e⟩ => by
                  rcases (show k = 1 ∨ k = 2 ∨ k = 3 by omega) with rfl | rfl | rfl
                  · exact cn_out (by decide) hu e o1
                  · exact cn_out (by decide) hu e o2
                  · exact cn_out (by decide) hu e o3, rfl⟩⟩⟩)
          · obtain ⟨u, hu, rfl⟩ : ∃ u : Nat, u < 4 ∧ q = nI (30 + u) := cn_in (lo := 30) (by decide) (Int32.not_lt.mp c47) (Int32.not_lt.mp c53)
            refine g_aload_n dX12_count_56 rfl (List.mem_of_getElem? (i := 0) rfl) ?_
            refine g_get fX12_796 ha (v := .ref (n0 + 46)) (mFs_get (by decide) rfl) dX12_count_57 ?_
            refine g_iload_n dX12_count_60 rfl (List.mem_of_getElem? (i := 1) rfl) ?_
            refine g_bipush (v := 30) dX12_count_61 (by decide) ?_
            refine g_isub dX12_count_63 ?_
            refine g_eqi (nI u) (by show nI (30 + u) - nI 30 = _; rw [pk_sub (by omega), show 30 + u - 30 = u by omega]) ?_
            refine g_iald (t0 := 0) rfl h3 (vp_in_nI hu (by decide)) dX12_count_64 ?_
            refine g_eqi (nI (bx u)) (by rw [nI_clamp (by omega)]; exact (hv u hu).2.2) ?_
            exact g_iret rfl dX12_count_65 (⟨rfl, Or.inr ⟨fun j hj e => absurd ((nI_eq (by omega) (by omega)).mp e) (by omega), _, rfl, Or.inl ⟨3, u, by decide, by decide, hu, rfl, rfl⟩⟩⟩)
      · obtain ⟨u, hu, rfl⟩ : ∃ u : Nat, u < 4 ∧ q = nI (20 + u) := cn_in (lo := 20) (by decide) (Int32.not_lt.mp c25) (Int32.not_lt.mp c31)
        refine g_aload_n dX12_count_34 rfl (List.mem_of_getElem? (i := 0) rfl) ?_
        refine g_get fX12_857 ha (v := .ref (n0 + 49)) (mFs_get (by decide) rfl) dX12_count_35 ?_
        refine g_iload_n dX12_count_38 rfl (List.mem_of_getElem? (i := 1) rfl) ?_
        refine g_bipush (v := 20) dX12_count_39 (by decide) ?_
        refine g_isub dX12_count_41 ?_
        refine g_eqi (nI u) (by show nI (20 + u) - nI 20 = _; rw [pk_sub (by omega), show 20 + u - 20 = u by omega]) ?_
        refine g_iald (t0 := 0) rfl h2 (vp_in_nI hu (by decide)) dX12_count_42 ?_
        refine g_eqi (nI (nc u)) (by rw [nI_clamp (by omega)]; exact (hv u hu).2.1) ?_
        exact g_iret rfl dX12_count_43 (⟨rfl, Or.inr ⟨fun j hj e => absurd ((nI_eq (by omega) (by omega)).mp e) (by omega), _, rfl, Or.inl ⟨2, u, by decide, by decide, hu, rfl, rfl⟩⟩⟩)
  · have c3 := c3
    refine g_iload_n dX12_count_6 rfl (List.mem_of_getElem? (i := 1) rfl) ?_
    refine g_bipush (v := 13) dX12_count_7 (by decide) ?_
    refine g_icmp_gt (tgt := 22) dX12_count_9 (by decide) (fun c9 => ?_) (fun c9 => ?_)
    · have o1 : q < nI 10 ∨ nI 13 < q := Or.inr c9
      refine g_iload_n dX12_count_22 rfl (List.mem_of_getElem? (i := 1) rfl) ?_
      refine g_bipush (v := 20) dX12_count_23 (by decide) ?_
      refine g_icmp_lt (tgt := 44) dX12_count_25 (by decide) (fun c25 => ?_) (fun c25 => ?_)
      · have o2 : q < nI 20 ∨ nI 23 < q := Or.inl c25
        refine g_iload_n dX12_count_44 rfl (List.mem_of_getElem? (i := 1) rfl) ?_
        refine g_bipush (v := 30) dX12_count_45 (by decide) ?_
        refine g_icmp_lt (tgt := 66) dX12_count_47 (by decide) (fun c47 => ?_) (fun c47 => ?_)
        · have o3 : q < nI 30 ∨ nI 33 < q := Or.inl c47
          refine g_iload_n dX12_count_66 rfl (List.mem_of_getElem? (i := 1) rfl) ?_
          rcases sw_n q 7 (by decide) with ⟨j67, hj67, rfl⟩ | hout67
          · rcases (show j67 = 0 ∨ j67 = 1 ∨ j67 = 2 ∨ j67 = 3 ∨ j67 = 4 ∨ j67 = 5 ∨ j67 = 6 ∨ j67 = 7 by omega) with rfl | rfl | rfl | rfl | rfl | rfl | rfl | rfl
            · refine g_tableIn (tgt := 112) (off := 45) dX12_count_67 (by decide) (by decide) rfl (by decide) ?_
              refine g_aload_n dX12_count_112 rfl (List.mem_of_getElem? (i := 0) rfl) ?_
              refine g_get fX12_563 ha (v := .int (v 70)) (mFs_int (by decide) rfl) dX12_count_113 ?_
              refine g_aload_n dX12_count_116 rfl (List.mem_of_getElem? (i := 0) rfl) ?_
              refine g_get fX12_566 ha (v := .int (v 71)) (mFs_int (by decide) rfl) dX12_count_117 ?_
              refine g_iadd dX12_count_120 ?_
              exact g_iret rfl dX12_count_121 (⟨rfl, Or.inl ⟨0, by decide, rfl, rfl⟩⟩)
            · refine g_tableIn (tgt := 122) (off := 55) dX12_count_67 (by decide) (by decide) rfl (by decide) ?_
              refine g_aload_n dX12_count_122 rfl (List.mem_of_getElem? (i := 0) rfl) ?_
              refine g_get fX12_566 ha (v := .int (v 71)) (mFs_int (by decide) rfl) dX12_count_123 ?_
              exact g_iret rfl dX12_count_126 (⟨rfl, Or.inl ⟨1, by decide, rfl, rfl⟩⟩)
            · refine g_tableIn (tgt := 127) (off := 60) dX12_count_67 (by decide) (by decide) rfl (by decide) ?_
              refine g_aload_n dX12_count_127 rfl (List.mem_of_getElem? (i := 0) rfl) ?_
              refine g_get fX12_552 ha (v := .int (v 69)) (mFs_int (by decide) rfl) dX12_count_128 ?_
              exact g_iret rfl dX12_count_131 (⟨rfl, Or.inl ⟨2, by decide, rfl, rfl⟩⟩)
            · refine g_tableIn (tgt := 132) (off := 65) dX12_count_67 (by decide) (by decide) rfl (by decide) ?_
              refine g_aload_n dX12_count_132 rfl (List.mem_of_getElem? (i := 0) rfl) ?_
              refine g_get fX12_863 ha (v := .int (v 1)) (mFs_int (by decide) rfl) dX12_count_133 ?_
              exact g_iret rfl dX12_count_136 (⟨rfl, Or.inl ⟨3, by decide, rfl, rfl⟩⟩)
            · refine g_tableIn (tgt := 137) (off := 70) dX12_count_67 (by decide) (by decide) rfl (by decide) ?_
              refine g_aload_n dX12_count_137 rfl (List.mem_of_getElem? (i := 0) rfl) ?_
              refine g_get fX12_18 ha (v := .int (v 2)) (mFs_int (by decide) rfl) dX12_count_138 ?_
              exact g_iret rfl dX12_count_141 (⟨rfl, Or.inl ⟨4, by decide, rfl, rfl⟩⟩)
            · refine g_tableIn (tgt := 142) (off := 75) dX12_count_67 (by decide) (by decide) rfl (by decide) ?_
              refine g_aload_n dX12_count_142 rfl (List.mem_of_getElem? (i := 0) rfl) ?_
              refine g_get fX12_25 ha (v := .int (v 5)) (mFs_int (by decide) rfl) dX12_count_143 ?_
              exact g_iret rfl dX12_count_146 (⟨rfl, Or.inl ⟨5, by decide, rfl, rfl⟩⟩)
            · refine g_tableIn (tgt := 147) (off := 80) dX12_count_67 (by decide) (by decide) rfl (by decide) ?_
              refine g_aload_n dX12_count_147 rfl (List.mem_of_getElem? (i := 0) rfl) ?_
              refine g_get fX12_7 ha (v := .int (v 0)) (mFs_int (by decide) rfl) dX12_count_148 ?_
              refine g_if_eq (tgt := 158) dX12_count_151 (by decide) (fun c151 => ?_) (fun c151 => ?_)
              · have c151 := c151
                refine g_iconst (v := 0) dX12_count_158 (by decide) ?_
                exact g_iret rfl dX12_count_159 (⟨rfl, Or.inl ⟨6, by decide, rfl, by show _ = some (Value.int (if _ = 0 then 0 else 1)); rw [if_pos c151]⟩⟩)
              · have c151 := c151
                refine g_iconst (v := 1) dX12_count_154 (by decide) ?_
                refine g_goto (tgt := 159) dX12_count_155 (by decide) ?_
                exact g_iret rfl dX12_count_159 (⟨rfl, Or.inl ⟨6, by decide, rfl, by show _ = some (Value.int (if _ = 0 then 0 else 1)); rw [if_neg c151]⟩⟩)
            · refine g_tableIn (tgt := 160) (off := 93) dX12_count_67 (by decide) (by decide) rfl (by decide) ?_
              refine g_aload_n dX12_count_160 rfl (List.mem_of_getElem? (i := 0) rfl) ?_
              refine g_get fX12_11 ha (v := .int (v 113)) (mFs_int (by decide) rfl) dX12_count_161 ?_
              refine g_if_eq (tgt := 171) dX12_count_164 (by decide) (fun c164 => ?_) (fun c164 => ?_)
              · have c164 := c164
                refine g_iconst (v := 0) dX12_count_171 (by decide) ?_
                exact g_iret rfl dX12_count_172 (⟨rfl, Or.inl ⟨7, by decide, rfl, by show _ = some (Value.int (if _ = 0 then 0 else 1)); rw [if_pos c164]⟩⟩)
              · have c164 := c164
                refine g_iconst (v := 1) dX12_count_167 (by decide) ?_
                refine g_goto (tgt := 172) dX12_count_168 (by decide) ?_
                exact g_iret rfl dX12_count_172 (⟨rfl, Or.inl ⟨7, by decide, rfl, by show _ = some (Value.int (if _ = 0 then 0 else 1)); rw [if_neg c164]⟩⟩)
          · refine g_tableOut (tgt := 173) dX12_count_67 (by omega) (by decide) ?_
            refine g_iconst (v := -1) dX12_count_173 (by decide) ?_
            exact g_iret rfl dX12_count_174 (⟨rfl, Or.inr ⟨sw_ne (by decide) hout67, _, rfl, Or.inr ⟨fun ⟨k, u, k1, k3, hu, e⟩ => by
                rcases (show k = 1 ∨ k = 2 ∨ k = 3 by omega) with rfl | rfl | rfl
                · exact cn_out (by decide) hu e o1
                · exact cn_out (by decide) hu e o2
                · exact cn_out (by decide) hu e o3, rfl⟩⟩⟩)
        · have c47 := c47
          refine g_iload_n dX12_count_50 rfl (List.mem_of_getElem? (i := 1) rfl) ?_
          refine g_bipush (v := 33) dX12_count_51 (by decide) ?_
          refine g_icmp_gt (tgt := 66) dX12_count_53 (by decide) (fun c53 => ?_) (fun c53 => ?_)
          · have o3 : q < nI 30 ∨ nI 33 < q := Or.inr c53
            refine g_iload_n dX12_count_66 rfl (List.mem_of_getElem? (i := 1) rfl) ?_
            rcases sw_n q 7 (by decide) with ⟨j67, hj67, rfl⟩ | hout67
            · rcases (show j67 = 0 ∨ j67 = 1 ∨ j67 = 2 ∨ j67 = 3 ∨ j67 = 4 ∨ j67 = 5 ∨ j67 = 6 ∨ j67 = 7 by omega) with rfl | rfl | rfl | rfl | rfl | rfl | rfl | rfl
              · refine g_tableIn (tgt := 112) (off := 45) dX12_count_67 (by decide) (by decide) rfl (by decide) ?_
                refine g_aload_n dX12_count_112 rfl (List.mem_of_getElem? (i := 0) rfl) ?_
                refine g_get fX12_563 ha (v := .int (v 70)) (mFs_int (by decide) rfl) dX12_count_113 ?_
                refine g_aload_n dX12_count_116 rfl (List.mem_of_getElem? (i := 0) rfl) ?_
                refine g_get fX12_566 ha (v := .int (v 71)) (mFs_int (by decide) rfl) dX12_count_117 ?_
                refine g_iadd dX12_count_120 ?_
                exact g_iret rfl dX12_count_121 (⟨rfl, Or.inl ⟨0, by decide, rfl, rfl⟩⟩)
              · refine g_tableIn (tgt := 122) (off := 55) dX12_count_67 (by decide) (by decide) rfl (by decide) ?_
                refine g_aload_n dX12_count_122 rfl (List.mem_of_getElem? (i := 0) rfl) ?_
                refine g_get fX12_566 ha (v := .int (v 71)) (mFs_int (by decide) rfl) dX12_count_123 ?_
                exact g_iret rfl dX12_count_126 (⟨rfl, Or.inl ⟨1, by decide, rfl, rfl⟩⟩)
              · refine g_tableIn (tgt := 127) (off := 60) dX12_count_67 (by decide) (by decide) rfl (by decide) ?_
                refine g_aload_n dX12_count_127 rfl (List.mem_of_getElem? (i := 0) rfl) ?_
                refine g_get fX12_552 ha (v := .int (v 69)) (mFs_int (by decide) rfl) dX12_count_128 ?_
                exact g_iret rfl dX12_count_131 (⟨rfl, Or.inl ⟨2, by decide, rfl, rfl⟩⟩)
              · refine g_tableIn (tgt := 132) (off := 65) dX12_count_67 (by decide) (by decide) rfl (by decide) ?_
                refine g_aload_n dX12_count_132 rfl (List.mem_of_getElem? (i := 0) rfl) ?_
                refine g_get fX12_863 ha (v := .int (v 1)) (mFs_int (by decide) rfl) dX12_count_133 ?_
                exact g_iret rfl dX12_count_136 (⟨rfl, Or.inl ⟨3, by decide, rfl, rfl⟩⟩)
              · refine g_tableIn (tgt := 137) (off := 70) dX12_count_67 (by decide) (by decide) rfl (by decide) ?_
                refine g_aload_n dX12_count_137 rfl (List.mem_of_getElem? (i := 0) rfl) ?_
                refine g_get fX12_18 ha (v := .int (v 2)) (mFs_int (by decide) rfl) dX12_count_138 ?_
                exact g_iret rfl dX12_count_141 (⟨rfl, Or.inl ⟨4, by decide, rfl, rfl⟩⟩)
              · refine g_tableIn (tgt := 142) (off := 75) dX12_count_67 (by decide) (by decide) rfl (by decide) ?_
                refine g_aload_n dX12_count_142 rfl (List.mem_of_getElem? (i := 0) rfl) ?_
                refine g_get fX12_25 ha (v := .int (v 5)) (mFs_int (by decide) rfl) dX12_count_143 ?_
                exact g_iret rfl dX12_count_146 (⟨rfl, Or.inl ⟨5, by decide, rfl, rfl⟩⟩)
              · refine g_tableIn (tgt := 147) (off := 80) dX12_count_67 (by decide) (by decide) rfl (by decide) ?_
                refine g_aload_n dX12_count_147 rfl (List.mem_of_getElem? (i := 0) rfl) ?_
                refine g_get fX12_7 ha (v := .int (v 0)) (mFs_int (by decide) rfl) dX12_count_148 ?_
                refine g_if_eq (tgt := 158) dX12_count_151 (by decide) (fun c151 => ?_) (fun c151 => ?_)
                · have c151 := c151
                  refine g_iconst (v := 0) dX12_count_158 (by decide) ?_
                  exact g_iret rfl dX12_count_159 (⟨rfl, Or.inl ⟨6, by decide, rfl, by show _ = some (Value.int (if _ = 0 then 0 else 1)); rw [if_pos c151]⟩⟩)
                · have c151 := c151
                  refine g_iconst (v := 1) dX12_count_154 (by decide) ?_
                  refine g_goto (tgt := 159) dX12_count_155 (by decide) ?_
                  exact g_iret rfl dX12_count_159 (⟨rfl, Or.inl ⟨6, by decide, rfl, by show _ = some (Value.int (if _ = 0 then 0 else 1)); rw [if_neg c151]⟩⟩)
              · refine g_tableIn (tgt := 160) (off := 93) dX12_count_67 (by decide) (by decide) rfl (by decide) ?_
                refine g_aload_n dX12_count_160 rfl (List.mem_of_getElem? (i := 0) rfl) ?_
                refine g_get fX12_11 ha (v := .int (v 113)) (mFs_int (by decide) rfl) dX12_count_161 ?_
                refine g_if_eq (tgt := 171) dX12_count_164 (by decide) (fun c164 => ?_) (fun c164 => ?_)
                · have c164 := c164
                  refine g_iconst (v := 0) dX12_count_171 (by decide) ?_
                  exact g_iret rfl dX12_count_172 (⟨rfl, Or.inl ⟨7, by decide, rfl, by show _ = some (Value.int (if _ = 0 then 0 else 1)); rw [if_pos c164]⟩⟩)
                · have c164 := c164
                  refine g_iconst (v := 1) dX12_count_167 (by decide) ?_
                  refine g_goto (tgt := 172) dX12_count_168 (by decide) ?_
                  exact g_iret rfl dX12_count_172 (⟨rfl, Or.inl ⟨7, by decide, rfl, by show _ = some (Value.int (if _ = 0 then 0 else 1)); rw [if_neg c164]⟩⟩)
            · refine g_tableOut (tgt := 173) dX12_count_67 (by omega) (by decide) ?_
              refine g_iconst (v := -1) dX12_count_173 (by decide) ?_
              exact g_iret rfl dX12_count_174 (⟨rfl, Or.inr ⟨sw_ne (by decide) hout67, _, rfl, Or.inr ⟨fun ⟨k, u, k1, k3, hu, e⟩ => by
                  rcases (show k = 1 ∨ k = 2 ∨ k = 3 by omega) with rfl | rfl | rfl
                  · exact cn_out (by decide) hu e o1
                  · exact cn_out (by decide) hu e o2
                  · exact cn_out (by decide) hu e o3, rfl⟩⟩⟩)
          · obtain ⟨u, hu, rfl⟩ : ∃ u : Nat, u < 4 ∧ q = nI (30 + u) := cn_in (lo := 30) (by decide) (Int32.not_lt.mp c47) (Int32.not_lt.mp c53)
            refine g_aload_n dX12_count_56 rfl (List.mem_of_getElem? (i := 0) rfl) ?_
            refine g_get fX12_796 ha (v := .ref (n0 + 46)) (mFs_get (by decide) rfl) dX12_count_57 ?_
            refine g_iload_n dX12_count_60 rfl (List.mem_of_getElem? (i := 1) rfl) ?_
            refine g_bipush (v := 30) dX12_count_61 (by decide) ?_
            refine g_isub dX12_count_63 ?_
            refine g_eqi (nI u) (by show nI (30 + u) - nI 30 = _; rw [pk_sub (by omega), show 30 + u - 30 = u by omega]) ?_
            refine g_iald (t0 := 0) rfl h3 (vp_in_nI hu (by decide)) dX12_count_64 ?_
            refine g_eqi (nI (bx u)) (by rw [nI_clamp (by omega)]; exact (hv u hu).2.2) ?_
            exact g_iret rfl dX12_count_65 (⟨rfl, Or.inr ⟨fun j hj e => absurd ((nI_eq (by omega) (by omega)).mp e) (by omega), _, rfl, Or.inl ⟨3, u, by decide, by decide, hu, rfl, rfl⟩⟩⟩)
      · have c25 := c25
        refine g_iload_n dX12_count_28 rfl (List.mem_of_getElem? (i := 1) rfl) ?_
        refine g_bipush (v := 23) dX12_count_29 (by decide) ?_
        refine g_icmp_gt (tgt := 44) dX12_count_31 (by decide) (fun c31 => ?_) (fun c31 => ?_)
        · have o2 : q < nI 20 ∨ nI 23 < q := Or.inr c31
          refine g_iload_n dX12_count_44 rfl (List.mem_of_getElem? (i := 1) rfl) ?_
          refine g_bipush (v := 30) dX12_count_45 (by decide) ?_
          refine g_icmp_lt (tgt := 66) dX12_count_47 (by decide) (fun c47 => ?_) (fun c47 => ?_)
          · have o3 : q < nI 30 ∨ nI 33 < q := Or.inl c47
            refine g_iload_n dX12_count_66 rfl (List.mem_of_getElem? (i := 1) rfl) ?_
            rcases sw_n q 7 (by decide) with ⟨j67, hj67, rfl⟩ | hout67
            · rcases (show j67 = 0 ∨ j67 = 1 ∨ j67 = 2 ∨ j67 = 3 ∨ j67 = 4 ∨ j67 = 5 ∨ j67 = 6 ∨ j67 = 7 by omega) with rfl | rfl | rfl | rfl | rfl | rfl | rfl | rfl
              · refine g_tableIn (tgt := 112) (off := 45) dX12_count_67 (by decide) (by decide) rfl (by decide) ?_
                refine g_aload_n dX12_count_112 rfl (List.mem_of_getElem? (i := 0) rfl) ?_
                refine g_get fX12_563 ha (v := .int (v 70)) (mFs_int (by decide) rfl) dX12_count_113 ?_
                refine g_aload_n dX12_count_116 rfl (List.mem_of_getElem? (i := 0) rfl) ?_
                refine g_get fX12_566 ha (v := .int (v 71)) (mFs_int (by decide) rfl) dX12_count_117 ?_
                refine g_iadd dX12_count_120 ?_
                exact g_iret rfl dX12_count_121 (⟨rfl, Or.inl ⟨0, by decide, rfl, rfl⟩⟩)
              · refine g_tableIn (tgt := 122) (off := 55) dX12_count_67 (by decide) (by decide) rfl (by decide) ?_
                refine g_aload_n dX12_count_122 rfl (List.mem_of_getElem? (i := 0) rfl) ?_
                refine g_get fX12_566 ha (v := .int (v 71)) (mFs_int (by decide) rfl) dX12_count_123 ?_
                exact g_iret rfl dX12_count_126 (⟨rfl, Or.inl ⟨1, by decide, rfl, rfl⟩⟩)
              · refine g_tableIn (tgt := 127) (off := 60) dX12_count_67 (by decide) (by decide) rfl (by decide) ?_
                refine g_aload_n dX12_count_127 rfl (List.mem_of_getElem? (i := 0) rfl) ?_
                refine g_get fX12_552 ha (v := .int (v 69)) (mFs_int (by decide) rfl) dX12_count_128 ?_
                exact g_iret rfl dX12_count_131 (⟨rfl, Or.inl ⟨2, by decide, rfl, rfl⟩⟩)
              · refine g_tableIn (tgt := 132) (off := 65) dX12_count_67 (by decide) (by decide) rfl (by decide) ?_
                refine g_aload_n dX12_count_132 rfl (List.mem_of_getElem? (i := 0) rfl) ?_
                refine g_get fX12_863 ha (v := .int (v 1)) (mFs_int (by decide) rfl) dX12_count_133 ?_
                exact g_iret rfl dX12_count_136 (⟨rfl, Or.inl ⟨3, by decide, rfl, rfl⟩⟩)
              · refine g_tableIn (tgt := 137) (off := 70) dX12_count_67 (by decide) (by decide) rfl (by decide) ?_
                refine g_aload_n dX12_count_137 rfl (List.mem_of_getElem? (i := 0) rfl) ?_
                refine g_get fX12_18 ha (v := .int (v 2)) (mFs_int (by decide) rfl) dX12_count_138 ?_
                exact g_iret rfl dX12_count_141 (⟨rfl, Or.inl ⟨4, by decide, rfl, rfl⟩⟩)
              · refine g_tableIn (tgt := 142) (off := 75) dX12_count_67 (by decide) (by decide) rfl (by decide) ?_
                refine g_aload_n dX12_count_142 rfl (List.mem_of_getElem? (i := 0) rfl) ?_
                refine g_get fX12_25 ha (v := .int (v 5)) (mFs_int (by decide) rfl) dX12_count_143 ?_
                exact g_iret rfl dX12_count_146 (⟨rfl, Or.inl ⟨5, by decide, rfl, rfl⟩⟩)
              · refine g_tableIn (tgt := 147) (off := 80) dX12_count_67 (by decide) (by decide) rfl (by decide) ?_
                refine g_aload_n dX12_count_147 rfl (List.mem_of_getElem? (i := 0) rfl) ?_
                refine g_get fX12_7 ha (v := .int (v 0)) (mFs_int (by decide) rfl) dX12_count_148 ?_
                refine g_if_eq (tgt := 158) dX12_count_151 (by decide) (fun c151 => ?_) (fun c151 => ?_)
                · have c151 := c151
                  refine g_iconst (v := 0) dX12_count_158 (by decide) ?_
                  exact g_iret rfl dX12_count_159 (⟨rfl, Or.inl ⟨6, by decide, rfl, by show _ = some (Value.int (if _ = 0 then 0 else 1)); rw [if_pos c151]⟩⟩)
                · have c151 := c151
                  refine g_iconst (v := 1) dX12_count_154 (by decide) ?_
                  refine g_goto (tgt := 159) dX12_count_155 (by decide) ?_
                  exact g_iret rfl dX12_count_159 (⟨rfl, Or.inl ⟨6, by decide, rfl, by show _ = some (Value.int (if _ = 0 then 0 else 1)); rw [if_neg c151]⟩⟩)
              · refine g_tableIn (tgt := 160) (off := 93) dX12_count_67 (by decide) (by decide) rfl (by decide) ?_
                refine g_aload_n dX12_count_160 rfl (List.mem_of_getElem? (i := 0) rfl) ?_
                refine g_get fX12_11 ha (v := .int (v 113)) (mFs_int (by decide) rfl) dX12_count_161 ?_
                refine g_if_eq (tgt := 171) dX12_count_164 (by decide) (fun c164 => ?_) (fun c164 => ?_)
                · have c164 := c164
                  refine g_iconst (v := 0) dX12_count_171 (by decide) ?_
                  exact g_iret rfl dX12_count_172 (⟨rfl, Or.inl ⟨7, by decide, rfl, by show _ = some (Value.int (if _ = 0 then 0 else 1)); rw [if_pos c164]⟩⟩)
                · have c164 := c164
                  refine g_iconst (v := 1) dX12_count_167 (by decide) ?_
                  refine g_goto (tgt := 172) dX12_count_168 (by decide) ?_
                  exact g_iret rfl dX12_count_172 (⟨rfl, Or.inl ⟨7, by decide, rfl, by show _ = some (Value.int (if _ = 0 then 0 else 1)); rw [if_neg c164]⟩⟩)
            · refine g_tableOut (tgt := 173) dX12_count_67 (by omega) (by decide) ?_
              refine g_iconst (v := -1) dX12_count_173 (by decide) ?_
              exact g_iret rfl dX12_count_174 (⟨rfl, Or.inr ⟨sw_ne (by decide) hout67, _, rfl, Or.inr ⟨fun ⟨k, u, k1, k3, hu, e⟩ => by
                  rcases (show k = 1 ∨ k = 2 ∨ k = 3 by omega) with rfl | rfl | rfl
                  · exact cn_out (by decide) hu e o1
                  · exact cn_out (by decide) hu e o2
                  · exact cn_out (by decide) hu e o3, rfl⟩⟩⟩)
          · have c47 := c47
            refine g_iload_n dX12_count_50 rfl (List.mem_of_getElem? (i := 1) rfl) ?_
            refine g_bipush (v := 33) dX12_count_51 (by decide) ?_
            refine g_icmp_gt (tgt := 66) dX12_count_53 (by decide) (fun c53 => ?_) (fun c53 => ?_)
            · have o3 : q < nI 30 ∨ nI 33 < q := Or.inr c53
              refine g_iload_n dX12_count_66 rfl (List.mem_of_getElem? (i := 1) rfl) ?_
              rcases sw_n q 7 (by decide) with ⟨j67, hj67, rfl⟩ | hout67
              · rcases (show j67 = 0 ∨ j67 = 1 ∨ j67 = 2 ∨ j67 = 3 ∨ j67 = 4 ∨ j67 = 5 ∨ j67 = 6 ∨ j67 = 7 by omega) with rfl | rfl | rfl | rfl | rfl | rfl | rfl | rfl
                · refine g_tableIn (tgt := 112) (off := 45) dX12_count_67 (by decide) (by decide) rfl (by decide) ?_
                  refine g_aload_n dX12_count_112 rfl (List.mem_of_getElem? (i := 0) rfl) ?_
                  refine g_get fX12_563 ha (v := .int (v 70)) (mFs_int (by decide) rfl) dX12_count_113 ?_
                  refine g_aload_n dX12_count_116 rfl (List.mem_of_getElem? (i := 0) rfl) ?_
                  refine g_get fX12_566 ha (v := .int (v 71)) (mFs_int (by decide) rfl) dX12_count_117 ?_
                  refine g_iadd dX12_count_120 ?_
                  exact g_iret rfl dX12_count_121 (⟨rfl, Or.inl ⟨0, by decide, rfl, rfl⟩⟩)
                · refine g_tableIn (tgt := 122) (off := 55) dX12_count_67 (by decide) (by decide) rfl (by decide) ?_
                  refine g_aload_n dX12_count_122 rfl (List.mem_of_getElem? (i := 0) rfl) ?_
                  refine g_get fX12_566 ha (v := .int (v 71)) (mFs_int (by decide) rfl) dX12_count_123 ?_
                  exact g_iret rfl dX12_count_126 (⟨rfl, Or.inl ⟨1, by decide, rfl, rfl⟩⟩)
                · refine g_tableIn (tgt := 127) (off := 60) dX12_count_67 (by decide) (by decide) rfl (by decide) ?_
                  refine g_aload_n dX12_count_127 rfl (List.mem_of_getElem? (i := 0) rfl) ?_
                  refine g_get fX12_552 ha (v := .int (v 69)) (mFs_int (by decide) rfl) dX12_count_128 ?_
                  exact g_iret rfl dX12_count_131 (⟨rfl, Or.inl ⟨2, by decide, rfl, rfl⟩⟩)
                · refine g_tableIn (tgt := 132) (off := 65) dX12_count_67 (by decide) (by decide) rfl (by decide) ?_
                  refine g_aload_n dX12_count_132 rfl (List.mem_of_getElem? (i := 0) rfl) ?_
                  refine g_get fX12_863 ha (v := .int (v 1)) (mFs_int (by decide) rfl) dX12_count_133 ?_
                  exact g_iret rfl dX12_count_136 (⟨rfl, Or.inl ⟨3, by decide, rfl, rfl⟩⟩)
                · refine g_tableIn (tgt := 137) (off := 70) dX12_count_67 (by decide) (by decide) rfl (by decide) ?_
                  refine g_aload_n dX12_count_137 rfl (List.mem_of_getElem? (i := 0) rfl) ?_
                  refine g_get fX12_18 ha (v := .int (v 2)) (mFs_int (by decide) rfl) dX12_count_138 ?_
                  exact g_iret rfl dX12_count_141 (⟨rfl, Or.inl ⟨4, by decide, rfl, rfl⟩⟩)
                · refine g_tableIn (tgt := 142) (off := 75) dX12_count_67 (by decide) (by decide) rfl (by decide) ?_
                  refine g_aload_n dX12_count_142 rfl (List.mem_of_getElem? (i := 0) rfl) ?_
                  refine g_get fX12_25 ha (v := .int (v 5)) (mFs_int (by decide) rfl) dX12_count_143 ?_
                  exact g_iret rfl dX12_count_146 (⟨rfl, Or.inl ⟨5, by decide, rfl, rfl⟩⟩)
                · refine g_tableIn (tgt := 147) (off := 80) dX12_count_67 (by decide) (by decide) rfl (by decide) ?_
                  refine g_aload_n dX12_count_147 rfl (List.mem_of_getElem? (i := 0) rfl) ?_
                  refine g_get fX12_7 ha (v := .int (v 0)) (mFs_int (by decide) rfl) dX12_count_148 ?_
                  refine g_if_eq (tgt := 158) dX12_count_151 (by decide) (fun c151 => ?_) (fun c151 => ?_)
                  · have c151 := c151
                    refine g_iconst (v := 0) dX12_count_158 (by decide) ?_
                    exact g_iret rfl dX12_count_159 (⟨rfl, Or.inl ⟨6, by decide, rfl, by show _ = some (Value.int (if _ = 0 then 0 else 1)); rw [if_pos c151]⟩⟩)
                  · have c151 := c151
                    refine g_iconst (v := 1) dX12_count_154 (by decide) ?_
                    refine g_goto (tgt := 159) dX12_count_155 (by decide) ?_
                    exact g_iret rfl dX12_count_159 (⟨rfl, Or.inl ⟨6, by decide, rfl, by show _ = some (Value.int (if _ = 0 then 0 else 1)); rw [if_neg c151]⟩⟩)
                · refine g_tableIn (tgt := 160) (off := 93) dX12_count_67 (by decide) (by decide) rfl (by decide) ?_
                  refine g_aload_n dX12_count_160 rfl (List.mem_of_getElem? (i := 0) rfl) ?_
                  refine g_get fX12_11 ha (v := .int (v 113)) (mFs_int (by decide) rfl) dX12_count_161 ?_
                  refine g_if_eq (tgt := 171) dX12_count_164 (by decide) (fun c164 => ?_) (fun c164 => ?_)
                  · have c164 := c164
                    refine g_iconst (v := 0) dX12_count_171 (by decide) ?_
                    exact g_iret rfl dX12_count_172 (⟨rfl, Or.inl ⟨7, by decide, rfl, by show _ = some (Value.int (if _ = 0 then 0 else 1)); rw [if_pos c164]⟩⟩)
                  · have c164 := c164
                    refine g_iconst (v := 1) dX12_count_167 (by decide) ?_
                    refine g_goto (tgt := 172) dX12_count_168 (by decide) ?_
                    exact g_iret rfl dX12_count_172 (⟨rfl, Or.inl ⟨7, by decide, rfl, by show _ = some (Value.int (if _ = 0 then 0 else 1)); rw [if_neg c164]⟩⟩)
              · refine g_tableOut (tgt := 173) dX12_count_67 (by omega) (by decide) ?_
                refine g_iconst (v := -1) dX12_count_173 (by decide) ?_
                exact g_iret rfl dX12_count_174 (⟨rfl, Or.inr ⟨sw_ne (by decide) hout67, _, rfl, Or.inr ⟨fun ⟨k, u, k1, k3, hu, e⟩ => by
                    rcases (show k = 1 ∨ k = 2 ∨ k = 3 by omega) with rfl | rfl | rfl
                    · exact cn_out (by decide) hu e o1
                    · exact cn_out (by decide) hu e o2
                    · exact cn_out (by decide) hu e o3, rfl⟩⟩⟩)
            · obtain ⟨u, hu, rfl⟩ : ∃ u : Nat, u < 4 ∧ q = nI (30 + u) := cn_in (lo := 30) (by decide) (Int32.not_lt.mp c47) (Int32.not_lt.mp c53)
              refine g_aload_n dX12_count_56 rfl (List.mem_of_getElem? (i := 0) rfl) ?_
              refine g_get fX12_796 ha (v := .ref (n0 + 46)) (mFs_get (by decide) rfl) dX12_count_57 ?_
              refine g_iload_n dX12_count_60 rfl (List.mem_of_getElem? (i := 1) rfl) ?_
              refine g_bipush (v := 30) dX12_count_61 (by decide) ?_
              refine g_isub dX12_count_63 ?_
              refine g_eqi (nI u) (by show nI (30 + u) - nI 30 = _; rw [pk_sub (by omega), show 30 + u - 30 = u by omega]) ?_
              refine g_iald (t0 := 0) rfl h3 (vp_in_nI hu (by decide)) dX12_count_64 ?_
              refine g_eqi (nI (bx u)) (by rw [nI_clamp (by omega)]; exact (hv u hu).2.2) ?_
              exact g_iret rfl dX12_count_65 (⟨rfl, Or.inr ⟨fun j hj e => absurd ((nI_eq (by omega) (by omega)).mp e) (by omega), _, rfl, Or.inl ⟨3, u, by decide, by decide, hu, rfl, rfl⟩⟩⟩)
        · obtain ⟨u, hu, rfl⟩ : ∃ u : Nat, u < 4 ∧ q = nI (20 + u) := cn_in (lo := 20) (by decide) (Int32.not_lt.mp c25) (Int32.not_lt.mp c31)
          refine g_aload_n dX12_count_34 rfl (List.mem_of_getElem? (i := 0) rfl) ?_
          refine g_get fX12_857 ha (v := .ref (n0 + 49)) (mFs_get (by decide) rfl) dX12_count_35 ?_
          refine g_iload_n dX12_count_38 rfl (List.mem_of_getElem? (i := 1) rfl) ?_
          refine g_bipush (v := 20) dX12_count_39 (by decide) ?_
          refine g_isub dX12_count_41 ?_
          refine g_eqi (nI u) (by show nI (20 + u) - nI 20 = _; rw [pk_sub (by omega), show 20 + u - 20 = u by omega]) ?_
          refine g_iald (t0 := 0) rfl h2 (vp_in_nI hu (by decide)) dX12_count_42 ?_
          refine g_eqi (nI (nc u)) (by rw [nI_clamp (by omega)]; exact (hv u hu).2.1) ?_
          exact g_iret rfl dX12_count_43 (⟨rfl, Or.inr ⟨fun j hj e => absurd ((nI_eq (by omega) (by omega)).mp e) (by omega), _, rfl, Or.inl ⟨2, u, by decide, by decide, hu, rfl, rfl⟩⟩⟩)
    · obtain ⟨u, hu, rfl⟩ : ∃ u : Nat, u < 4 ∧ q = nI (10 + u) := cn_in (lo := 10) (by decide) (Int32.not_lt.mp c3) (Int32.not_lt.mp c9)
      refine g_aload_n dX12_count_12 rfl (List.mem_of_getElem? (i := 0) rfl) ?_
      refine g_get fX12_1180 ha (v := .ref (n0 + 69)) (mFs_get (by decide) rfl) dX12_count_13 ?_
      refine g_iload_n dX12_count_16 rfl (List.mem_of_getElem? (i := 1) rfl) ?_
      refine g_bipush (v := 10) dX12_count_17 (by decide) ?_
      refine g_isub dX12_count_19 ?_
      refine g_eqi (nI u) (by show nI (10 + u) - nI 10 = _; rw [pk_sub (by omega), show 10 + u - 10 = u by omega]) ?_
      refine g_iald (t0 := 0) rfl h1 (vp_in_nI hu (by decide)) dX12_count_20 ?_
      refine g_eqi (nI (sc u)) (by rw [nI_clamp (by omega)]; exact (hv u hu).1) ?_
      exact g_iret rfl dX12_count_21 (⟨rfl, Or.inr ⟨fun j hj e => absurd ((nI_eq (by omega) (by omega)).mp e) (by omega), _, rfl, Or.inl ⟨1, u, by decide, by decide, hu, rfl, rfl⟩⟩⟩)
