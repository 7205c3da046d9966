abbrev mX2_readText : hM := (yX2_readText, cX2_readText, 5, none)
theorem dX2_readText_116 : decode cX2_readText 116 = .ok (.aload_n 0, 1) := by decide +kernel
theorem dX2_readText_117 : decode cX2_readText 117 = .ok (.iconst 3, 1) := by decide +kernel
theorem dX2_readText_118 : decode cX2_readText 118 = .ok (.putfield 42, 3) := by decide +kernel
theorem dX2_readText_121 : decode cX2_readText 121 = .ok (.aload_n 0, 1) := by decide +kernel
theorem dX2_readText_122 : decode cX2_readText 122 = .ok (.getfield 14, 3) := by decide +kernel
theorem dX2_readText_125 : decode cX2_readText 125 = .ok (.invokevirtual 123, 3) := by decide +kernel
theorem dX2_readText_128 : decode cX2_readText 128 = .ok (.goto 42, 3) := by decide +kernel
theorem dX2_readText_170 : decode cX2_readText 170 = .ok (.iload_n 3, 1) := by decide +kernel
theorem dX2_readText_171 : decode cX2_readText 171 = .ok (.iconst 1, 1) := by decide +kernel
theorem dX2_readText_172 : decode cX2_readText 172 = .ok (.iadd, 1) := by decide +kernel
theorem dX2_readText_173 : decode cX2_readText 173 = .ok (.istore_n 2, 1) := by decide +kernel
theorem dX2_readText_174 : decode cX2_readText 174 = .ok (.goto (-166), 3) := by decide +kernel
theorem dX2_readText_164 : decode cX2_readText 164 = .ok (.iload_n 3, 1) := by decide +kernel
theorem dX2_readText_165 : decode cX2_readText 165 = .ok (.iconst 1, 1) := by decide +kernel
theorem dX2_readText_166 : decode cX2_readText 166 = .ok (.iadd, 1) := by decide +kernel
theorem lX2_134 : Cond.methodLink RX2 134 mX9_putRange.1 ∈ lw_g := h_t4 235 rfl rfl
theorem dX2_readText_167 : decode cX2_readText 167 = .ok (.invokevirtual 134, 3) := by decide +kernel
theorem dX2_readText_131 : decode cX2_readText 131 = .ok (.aload_n 0, 1) := by decide +kernel
theorem dX2_readText_132 : decode cX2_readText 132 = .ok (.getfield 14, 3) := by decide +kernel
theorem dX2_readText_135 : decode cX2_readText 135 = .ok (.aload_n 0, 1) := by decide +kernel
theorem dX2_readText_136 : decode cX2_readText 136 = .ok (.getfield 18, 3) := by decide +kernel
theorem dX2_readText_139 : decode cX2_readText 139 = .ok (.iload 4, 2) := by decide +kernel
theorem dX2_readText_141 : decode cX2_readText 141 = .ok (.ifCond .eq 22, 3) := by decide +kernel
theorem dX2_readText_163 : decode cX2_readText 163 = .ok (.iload_n 2, 1) := by decide +kernel
theorem dX2_readText_144 : decode cX2_readText 144 = .ok (.aload_n 0, 1) := by decide +kernel
theorem dX2_readText_145 : decode cX2_readText 145 = .ok (.getfield 18, 3) := by decide +kernel
theorem dX2_readText_148 : decode cX2_readText 148 = .ok (.iload_n 2, 1) := by decide +kernel
theorem dX2_readText_149 : decode cX2_readText 149 = .ok (.iconst 1, 1) := by decide +kernel
theorem dX2_readText_150 : decode cX2_readText 150 = .ok (.iadd, 1) := by decide +kernel
theorem dX2_readText_151 : decode cX2_readText 151 = .ok (.baload, 1) := by decide +kernel
theorem dX2_readText_152 : decode cX2_readText 152 = .ok (.bipush 46, 2) := by decide +kernel
theorem dX2_readText_154 : decode cX2_readText 154 = .ok (.if_icmp .ne 9, 3) := by decide +kernel
theorem dX2_readText_157 : decode cX2_readText 157 = .ok (.iload_n 2, 1) := by decide +kernel
theorem dX2_readText_158 : decode cX2_readText 158 = .ok (.iconst 1, 1) := by decide +kernel
theorem dX2_readText_159 : decode cX2_readText 159 = .ok (.iadd, 1) := by decide +kernel
theorem dX2_readText_160 : decode cX2_readText 160 = .ok (.goto 4, 3) := by decide +kernel
theorem dX2_readText_82 : decode cX2_readText 82 = .ok (.istore 4, 2) := by decide +kernel
theorem dX2_readText_84 : decode cX2_readText 84 = .ok (.iload 4, 2) := by decide +kernel
theorem dX2_readText_86 : decode cX2_readText 86 = .ok (.ifCond .eq 45, 3) := by decide +kernel
theorem dX2_readText_89 : decode cX2_readText 89 = .ok (.iload_n 3, 1) := by decide +kernel
theorem dX2_readText_90 : decode cX2_readText 90 = .ok (.iload_n 2, 1) := by decide +kernel
theorem dX2_readText_91 : decode cX2_readText 91 = .ok (.iconst 1, 1) := by decide +kernel
theorem dX2_readText_92 : decode cX2_readText 92 = .ok (.iadd, 1) := by decide +kernel
theorem dX2_readText_93 : decode cX2_readText 93 = .ok (.if_icmp .eq 23, 3) := by decide +kernel
theorem dX2_readText_96 : decode cX2_readText 96 = .ok (.iload_n 3, 1) := by decide +kernel
theorem dX2_readText_97 : decode cX2_readText 97 = .ok (.iload_n 2, 1) := by decide +kernel
theorem dX2_readText_98 : decode cX2_readText 98 = .ok (.iconst 2, 1) := by decide +kernel
theorem dX2_readText_99 : decode cX2_readText 99 = .ok (.iadd, 1) := by decide +kernel
theorem dX2_readText_100 : decode cX2_readText 100 = .ok (.if_icmp .ne 31, 3) := by decide +kernel
theorem dX2_readText_103 : decode cX2_readText 103 = .ok (.aload_n 0, 1) := by decide +kernel
theorem dX2_readText_104 : decode cX2_readText 104 = .ok (.getfield 18, 3) := by decide +kernel
theorem dX2_readText_107 : decode cX2_readText 107 = .ok (.iload_n 2, 1) := by decide +kernel
theorem dX2_readText_108 : decode cX2_readText 108 = .ok (.iconst 1, 1) := by decide +kernel
theorem dX2_readText_109 : decode cX2_readText 109 = .ok (.iadd, 1) := by decide +kernel
theorem dX2_readText_110 : decode cX2_readText 110 = .ok (.baload, 1) := by decide +kernel
theorem dX2_readText_111 : decode cX2_readText 111 = .ok (.bipush 13, 2) := by decide +kernel
theorem dX2_readText_113 : decode cX2_readText 113 = .ok (.if_icmp .ne 18, 3) := by decide +kernel
theorem dX2_readText_8 : decode cX2_readText 8 = .ok (.iload_n 2, 1) := by decide +kernel
theorem dX2_readText_9 : decode cX2_readText 9 = .ok (.aload_n 0, 1) := by decide +kernel
theorem dX2_readText_10 : decode cX2_readText 10 = .ok (.getfield 29, 3) := by decide +kernel
theorem dX2_readText_13 : decode cX2_readText 13 = .ok (.if_icmp .ge 164, 3) := by decide +kernel
theorem dX2_readText_177 : decode cX2_readText 177 = .ok (.aload_n 0, 1) := by decide +kernel
theorem dX2_readText_178 : decode cX2_readText 178 = .ok (.iload_n 2, 1) := by decide +kernel
theorem dX2_readText_179 : decode cX2_readText 179 = .ok (.putfield 26, 3) := by decide +kernel
theorem dX2_readText_182 : decode cX2_readText 182 = .ok (.return_, 1) := by decide +kernel
theorem dX2_readText_16 : decode cX2_readText 16 = .ok (.aload_n 0, 1) := by decide +kernel
theorem dX2_readText_17 : decode cX2_readText 17 = .ok (.getfield 14, 3) := by decide +kernel
theorem dX2_readText_20 : decode cX2_readText 20 = .ok (.getfield 117, 3) := by decide +kernel
theorem dX2_readText_23 : decode cX2_readText 23 = .ok (.aload_n 0, 1) := by decide +kernel
theorem dX2_readText_24 : decode cX2_readText 24 = .ok (.getfield 14, 3) := by decide +kernel
theorem dX2_readText_27 : decode cX2_readText 27 = .ok (.getfield 120, 3) := by decide +kernel
theorem dX2_readText_30 : decode cX2_readText 30 = .ok (.isub, 1) := by decide +kernel
theorem dX2_readText_31 : decode cX2_readText 31 = .ok (.sipush 1000, 3) := by decide +kernel
theorem dX2_readText_34 : decode cX2_readText 34 = .ok (.if_icmp .gt 143, 3) := by decide +kernel
theorem dX2_readText_37 : decode cX2_readText 37 = .ok (.aload_n 0, 1) := by decide +kernel
theorem dX2_readText_38 : decode cX2_readText 38 = .ok (.getfield 42, 3) := by decide +kernel
theorem dX2_readText_41 : decode cX2_readText 41 = .ok (.bipush 6, 2) := by decide +kernel
theorem dX2_readText_43 : decode cX2_readText 43 = .ok (.if_icmp .ne 134, 3) := by decide +kernel
theorem dX2_readText_46 : decode cX2_readText 46 = .ok (.aload_n 0, 1) := by decide +kernel
theorem dX2_readText_47 : decode cX2_readText 47 = .ok (.getfield 18, 3) := by decide +kernel
theorem dX2_readText_50 : decode cX2_readText 50 = .ok (.iload_n 2, 1) := by decide +kernel
theorem dX2_readText_51 : decode cX2_readText 51 = .ok (.aload_n 0, 1) := by decide +kernel
theorem dX2_readText_52 : decode cX2_readText 52 = .ok (.getfield 29, 3) := by decide +kernel
theorem dX2_readText_55 : decode cX2_readText 55 = .ok (.bipush 10, 2) := by decide +kernel
theorem dX2_readText_57 : decode cX2_readText 57 = .ok (.invokestatic 84, 3) := by decide +kernel
theorem dX2_readText_60 : decode cX2_readText 60 = .ok (.istore_n 3, 1) := by decide +kernel
theorem dX2_readText_61 : decode cX2_readText 61 = .ok (.iload_n 3, 1) := by decide +kernel
theorem dX2_readText_62 : decode cX2_readText 62 = .ok (.ifCond .ge 4, 3) := by decide +kernel
theorem dX2_readText_66 : decode cX2_readText 66 = .ok (.aload_n 0, 1) := by decide +kernel
theorem dX2_readText_67 : decode cX2_readText 67 = .ok (.getfield 18, 3) := by decide +kernel
theorem dX2_readText_70 : decode cX2_readText 70 = .ok (.iload_n 2, 1) := by decide +kernel
theorem dX2_readText_71 : decode cX2_readText 71 = .ok (.baload, 1) := by decide +kernel
theorem dX2_readText_72 : decode cX2_readText 72 = .ok (.bipush 46, 2) := by decide +kernel
theorem dX2_readText_74 : decode cX2_readText 74 = .ok (.if_icmp .ne 7, 3) := by decide +kernel
theorem dX2_readText_81 : decode cX2_readText 81 = .ok (.iconst 0, 1) := by decide +kernel
theorem dX2_readText_77 : decode cX2_readText 77 = .ok (.iconst 1, 1) := by decide +kernel
theorem dX2_readText_78 : decode cX2_readText 78 = .ok (.goto 4, 3) := by decide +kernel
theorem dX2_readText_65 : decode cX2_readText 65 = .ok (.return_, 1) := by decide +kernel
theorem dX2_readText_0 : decode cX2_readText 0 = .ok (.aload_n 0, 1) := by decide +kernel
theorem dX2_readText_1 : decode cX2_readText 1 = .ok (.bipush 6, 2) := by decide +kernel
theorem dX2_readText_3 : decode cX2_readText 3 = .ok (.putfield 42, 3) := by decide +kernel
theorem dX2_readText_6 : decode cX2_readText 6 = .ok (.iload_n 1, 1) := by decide +kernel
theorem dX2_readText_7 : decode cX2_readText 7 = .ok (.istore_n 2, 1) := by decide +kernel
def fb_X2_readText_116 (K8 : Int32 → uS → Option uS) (x3 : Int32) (s : uS) : Option uS := (fn_X9_close 8 (wI s 7 2 3)).bind fun s1 => K8 (x3 + 1) s1
set_option maxRecDepth 100000 in
set_option maxHeartbeats 4000000 in
theorem xb_X2_readText_116 {l : Launch} {D : va_G} {A : Nat → ClassId} {B : Nat} {Z : State → Heap → Prop} {vF : Value} (uk : uK B Z vF) (un : uX A B Z) {K8 : Int32 → uS → Option uS} (hK8 : ∀ (x2 : Int32)  (s : uS) (r : uS), K8 x2 s = some r → GU l D A B Z mX2_readText 2 (r, none) s 8 [(0, .ref (B + 7)), (2, .int x2)] []) {x3 : Int32} {s : uS} {r : uS}  (h : fb_X2_readText_116 K8 x3 s = some r) : GU l D A B Z mX2_readText 2 (r, none) s 116 [(0, .ref (B + 7)), (3, .int x3)] [] := by
  unfold fb_X2_readText_116 at h
  refine uu_aload_n dX2_readText_116 rfl (List.mem_of_getElem? (i := 0) rfl) ?_
  refine uu_iconst (v := 3) dX2_readText_117 (by decide) ?_
  refine uu_puti (ft := .int) (ci := 2) (N := 9) fX2_42 ptX2 (Or.inl rfl) (by decide) so_7.is (by decide) (by decide) (by decide +kernel) rfl rfl dX2_readText_118 ?_
  refine uu_aload_n dX2_readText_121 rfl (List.mem_of_getElem? (i := 0) rfl) ?_
  refine uu_geta (ci := 2) (N := 9) fX2_14 (by decide) so_7.is (by decide) (c := 8) (by decide) dX2_readText_122 ?_
  obtain ⟨s1, e2, h⟩ := uu_ob h
  refine uu_cv (d1 := 0) (k := 8) (ci := 9) (T := TX9) (N := 6) (As := []) (st := []) (st' := []) (xc_X9_close uk so_8 e2) so_8.is (by decide) rfl kX9_close lX2_123 sX9_close (by decide) (Nat.le_of_ble_eq_true rfl) dX2_readText_125 rfl ?_
  refine uu_goto (tgt := 170) dX2_readText_128 (by decide) ?_
  refine uu_iload_n dX2_readText_170 rfl (List.mem_of_getElem? (i := 1) rfl) ?_
  refine uu_iconst (v := 1) dX2_readText_171 (by decide) ?_
  refine uu_iadd dX2_readText_172 ?_
  refine uu_istore_n dX2_readText_173 rfl (by decide) rfl ?_
  refine uu_goto (tgt := 8) dX2_readText_174 (by decide) ?_
  refine uu_lv [1, 0] (lv' := [(0, .ref (B + 7)), (2, .int (x3 + 1))]) rfl ?_
  exact hK8 (x3 + 1) _ _ h
def fb_X2_readText_164 (K8 : Int32 → uS → Option uS) (x3 : Int32) (xs0 : Int32) (ks1 : Nat) (s : uS) : Option uS := (fn_X9_putRange 8 ks1 xs0 (x3 + 1) s).bind fun s1 => K8 (x3 + 1) s1
set_option maxRecDepth 100000 in
set_option maxHeartbeats 4000000 in
theorem xb_X2_readText_164 {l : Launch} {D : va_G} {A : Nat → ClassId} {B : Nat} {Z : State → Heap → Prop} {vF : Value} (uk : uK B Z vF) (un : uX A B Z) {K8 : Int32 → uS → Option uS} (hK8 : ∀ (x2 : Int32)  (s : uS) (r : uS), K8 x2 s = some r → GU l D A B Z mX2_readText 2 (r, none) s 8 [(0, .ref (B + 7)), (2, .int x2)] []) {x3 : Int32} {xs0 : Int32} {ks1 : Nat} {s : uS} {r : uS}  (h : fb_X2_readText_164 K8 x3 xs0 ks1 s = some r) : GU l D A B Z mX2_readText 2 (r, none) s 164 [(0, .ref (B + 7)), (3, .int x3)] [.int xs0, .ref (B + ks1), .ref (B + 8)] := by
  unfold fb_X2_readText_164 at h
  refine uu_iload_n dX2_readText_164 rfl (List.mem_of_getElem? (i := 1) rfl) ?_
  refine uu_iconst (v := 1) dX2_readText_165 (by decide) ?_
  refine uu_iadd dX2_readText_166 ?_
  obtain ⟨s1, e2, h⟩ := uu_ob h
  refine uu_cv (d1 := 1) (k := 8) (ci := 9) (T := TX9) (N := 6) (As := [.ref (B + ks1), .int xs0, .int (x3 + 1)]) (st := []) (st' := []) (xc_X9_putRange uk un so_8 e2) so_8.is (by decide) rfl kX9_putRange lX2_134 sX9_putRange (by decide) (Nat.le_of_ble_eq_true rfl) dX2_readText_167 rfl ?_
  refine uu_iload_n dX2_readText_170 rfl (List.mem_of_getElem? (i := 1) rfl) ?_
  refine uu_iconst (v := 1) dX2_readText_171 (by decide) ?_
  refine uu_iadd dX2_readText_172 ?_
  refine uu_istore_n dX2_readText_173 rfl (by decide) rfl ?_
  refine uu_goto (tgt := 8) dX2_readText_174 (by decide) ?_
  refine uu_lv [1, 0] (lv' := [(0, .ref (B + 7)), (2, .int (x3 + 1))]) rfl ?_
  exact hK8 (x3 + 1) _ _ h
def fb_X2_readText_131 (K8 : Int32 → uS → Option uS) (x2 : Int32) (x3 : Int32) (b4 : Bool) (s : uS) : Option uS := (s.R 7 1).bind fun j1 => if b4 = true then ((s.R 7 1).bind fun j4 => (iget 21 s j4 (x2 + 1)).bind fun v6 => if v6 = 46 then (fb_X2_readText_164 K8 x3 (x2 + 1) j1 s) else (fb_X2_readText_164 K8 x3 x2 j1 s)) else (fb_X2_readText_164 K8 x3 x2 j1 s)
set_option maxRecDepth 100000 in
set_option maxHeartbeats 4000000 in
theorem xb_X2_readText_131 {l : Launch} {D : va_G} {A : Nat → ClassId} {B : Nat} {Z : State → Heap → Prop} {vF : Value} (uk : uK B Z vF) (un : uX A B Z) {K8 : Int32 → uS → Option uS} (hK8 : ∀ (x2 : Int32)  (s : uS) (r : uS), K8 x2 s = some r → GU l D A B Z mX2_readText 2 (r, none) s 8 [(0, .ref (B + 7)), (2, .int x2)] []) {x2 : Int32} {x3 : Int32} {b4 : Bool} {s : uS} {r : uS}  (h : fb_X2_readText_131 K8 x2 x3 b4 s = some r) : GU l D A B Z mX2_readText 2 (r, none) s 131 [(0, .ref (B + 7)), (2, .int x2), (3, .int x3), (4, .int (bI b4))] [] := by
  unfold fb_X2_readText_131 at h
  refine uu_aload_n dX2_readText_131 rfl (List.mem_of_getElem? (i := 0) rfl) ?_
  refine uu_geta (ci := 2) (N := 9) fX2_14 (by decide) so_7.is (by decide) (c := 8) (by decide) dX2_readText_132 ?_
  refine uu_aload_n dX2_readText_135 rfl (List.mem_of_getElem? (i := 0) rfl) ?_
  obtain ⟨j1, e2, h⟩ := uu_ob h
  refine uu_getr (ci := 2) (N := 9) fX2_18 (by decide) so_7.is (by decide) (by decide) e2 dX2_readText_136 ?_
  refine uu_iload dX2_readText_139 (List.mem_of_getElem? (i := 3) rfl) ?_
  refine uu_ifb_eq (tgt := 163) dX2_readText_141 (by decide) (fun c3 => ?_) (fun c3 => ?_)
  · replace h := uu_neg c3 h
    refine uu_iload_n dX2_readText_163 rfl (List.mem_of_getElem? (i := 1) rfl) ?_
    refine uu_lv [0, 2] (lv' := [(0, .ref (B + 7)), (3, .int x3)]) rfl ?_
    exact xb_X2_readText_164 uk un hK8 h
  · replace h := uu_pos c3 h
    refine uu_aload_n dX2_readText_144 rfl (List.mem_of_getElem? (i := 0) rfl) ?_
    obtain ⟨j4, e5, h⟩ := uu_ob h
    refine uu_getr (ci := 2) (N := 9) fX2_18 (by decide) so_7.is (by decide) (by decide) e5 dX2_readText_145 ?_
    refine uu_iload_n dX2_readText_148 rfl (List.mem_of_getElem? (i := 1) rfl) ?_
    refine uu_iconst (v := 1) dX2_readText_149 (by decide) ?_
    refine uu_iadd dX2_readText_150 ?_
    obtain ⟨v6, e7, h⟩ := uu_ob h
    refine uu_bald e7 dX2_readText_151 ?_
    refine uu_bipush (v := 46) dX2_readText_152 (by decide) ?_
    refine uu_icmp_ne (tgt := 163) dX2_readText_154 (by decide) (fun c8 => ?_) (fun c8 => ?_)
    · replace h := uu_neg c8 h
      refine uu_iload_n dX2_readText_163 rfl (List.mem_of_getElem? (i := 1) rfl) ?_
      refine uu_lv [0, 2] (lv' := [(0, .ref (B + 7)), (3, .int x3)]) rfl ?_
      exact xb_X2_readText_164 uk un hK8 h
    · replace h := uu_pos c8 h
      refine uu_iload_n dX2_readText_157 rfl (List.mem_of_getElem? (i := 1) rfl) ?_
      refine uu_iconst (v := 1) dX2_readText_158 (by decide) ?_
      refine uu_iadd dX2_readText_159 ?_
      refine uu_goto (tgt := 164) dX2_readText_160 (by decide) ?_
      refine uu_lv [0, 2] (lv' := [(0, .ref (B + 7)), (3, .int x3)]) rfl ?_
      exact xb_X2_readText_164 uk un hK8 h
def fb_X2_readText_82 (K8 : Int32 → uS → Option uS) (x2 : Int32) (x3 : Int32) (bs0 : Bool) (s : uS) : Option uS := if bs0 = true then (if x3 = (x2 + 1) then (fb_X2_readText_116 K8 x3 s) else (if x3 = (x2 + 2) then ((s.R 7 1).bind fun j4 => (iget 21 s j4 (x2 + 1)).bind fun v6 => if v6 = 13 then (fb_X2_readText_116 K8 x3 s) else (fb_X2_readText_131 K8 x2 x3 bs0 s)) else (fb_X2_readText_131 K8 x2 x3 bs0 s))) else (fb_X2_readText_131 K8 x2 x3 bs0 s)
set_option maxRecDepth 100000 in
set_option maxHeartbeats 4000000 in
theorem xb_X2_readText_82 {l : Launch} {D : va_G} {A : Nat → ClassId} {B : Nat} {Z : State → Heap → Prop} {vF : Value} (uk : uK B Z vF) (un : uX A B Z) {K8 : Int32 → uS → Option uS} (hK8 : ∀ (x2 : Int32)  (s : uS) (r : uS), K8 x2 s = some r → GU l D A B Z mX2_readText 2 (r, none) s 8 [(0, .ref (B + 7)), (2, .int x2)] []) {x2 : Int32} {x3 : Int32} {bs0 : Bool} {s : uS} {r : uS}  (h : fb_X2_readText_82 K8 x2 x3 bs0 s = some r) : GU l D A B Z mX2_readText 2 (r, none) s 82 [(0, .ref (B + 7)), (2, .int x2), (3, .int x3)] [.int (bI bs0)] := by
  unfold fb_X2_readText_82 at h
  refine uu_istore dX2_readText_82 (by decide) rfl ?_
  refine uu_iload dX2_readText_84 (List.mem_of_getElem? (i := 0) rfl) ?_
  refine uu_ifb_eq (tgt := 131) dX2_readText_86 (by decide) (fun c1 => ?_) (fun c1 => ?_)
  · replace h := uu_neg c1 h
    refine uu_lv [1, 2, 3, 0] (lv' := [(0, .ref (B + 7)), (2, .int x2), (3, .int x3), (4, .int (bI bs0))]) rfl ?_
    exact xb_X2_readText_131 uk un hK8 h
  · replace h := uu_pos c1 h
    refine uu_iload_n dX2_readText_89 rfl (List.mem_of_getElem? (i := 3) rfl) ?_
    refine uu_iload_n dX2_readText_90 rfl (List.mem_of_getElem? (i := 2) rfl) ?_
    refine uu_iconst (v := 1) dX2_readText_91 (by decide) ?_
    refine uu_iadd dX2_readText_92 ?_
    refine uu_icmp_eq (tgt := 116) dX2_readText_93 (by decide) (fun c2 => ?_) (fun c2 => ?_)
    · replace h := uu_pos c2 h
      refine uu_lv [1, 3] (lv' := [(0, .ref (B + 7)), (3, .int x3)]) rfl ?_
      exact xb_X2_readText_116 uk un hK8 h
    · replace h := uu_neg c2 h
      refine uu_iload_n dX2_readText_96 rfl (List.mem_of_getElem? (i := 3) rfl) ?_
      refine uu_iload_n dX2_readText_97 rfl (List.mem_of_getElem? (i := 2) rfl) ?_
      refine uu_iconst (v := 2) dX2_readText_98 (by decide) ?_
      refine uu_iadd dX2_readText_99 ?_
      refine uu_icmp_ne (tgt := 131) dX2_readText_100 (by decide) (fun c3 => ?_) (fun c3 => ?_)
      · replace h := uu_neg c3 h
        refine uu_lv [1, 2, 3, 0] (lv' := [(0, .ref (B + 7)), (2, .int x2), (3, .int x3), (4, .int (bI bs0))]) rfl ?_
        exact xb_X2_readText_131 uk un hK8 h
      · replace h := uu_pos c3 h
        refine uu_aload_n dX2_readText_103 rfl (List.mem_of_getElem? (i := 1) rfl) ?_
        obtain ⟨j4, e5, h⟩ := uu_ob h
        refine uu_getr (ci := 2) (N := 9) fX2_18 (by decide) so_7.is (by decide) (by decide) e5 dX2_readText_104 ?_
        refine uu_iload_n dX2_readText_107 rfl (List.mem_of_getElem? (i := 2) rfl) ?_
        refine uu_iconst (v := 1) dX2_readText_108 (by decide) ?_
        refine uu_iadd dX2_readText_109 ?_
        obtain ⟨v6, e7, h⟩ := uu_ob h
        refine uu_bald e7 dX2_readText_110 ?_
        refine uu_bipush (v := 13) dX2_readText_111 (by decide) ?_
        refine uu_icmp_ne (tgt := 131) dX2_readText_113 (by decide) (fun c8 => ?_) (fun c8 => ?_)
        · replace h := uu_neg c8 h
          refine uu_lv [1, 2, 3, 0] (lv' := [(0, .ref (B + 7)), (2, .int x2), (3, .int x3), (4, .int (bI bs0))]) rfl ?_
          exact xb_X2_readText_131 uk un hK8 h
        · replace h := uu_pos c8 h
          refine uu_lv [1, 3] (lv' := [(0, .ref (B + 7)), (3, .int x3)]) rfl ?_
          exact xb_X2_readText_116 uk un hK8 h
def fb_X2_readText_8 (K8 : Int32 → uS → Option uS) (x2 : Int32) (s : uS) : Option uS := if (s.I 7 5) ≤ x2 then (some (wI s 7 8 x2)) else (if (1000 : Int32) < ((s.I 8 5) - (s.I 8 4)) then (some (wI s 7 8 x2)) else (if (s.I 7 2) = 6 then ((s.R 7 1).bind fun j4 => (fn_X9_find j4 x2 (s.I 7 5) 10 s).bind fun v6 => if 0 ≤ v6 then ((s.R 7 1).bind fun j9 => (iget 21 s j9 x2).bind fun v11 => if v11 = 46 then (fb_X2_readText_82 K8 x2 v6 true s) else (fb_X2_readText_82 K8 x2 v6 false s)) else (some s)) else (some (wI s 7 8 x2))))
set_option maxRecDepth 100000 in
set_option maxHeartbeats 4000000 in
theorem xb_X2_readText_8 {l : Launch} {D : va_G} {A : Nat → ClassId} {B : Nat} {Z : State → Heap → Prop} {vF : Value} (uk : uK B Z vF) (un : uX A B Z) {K8 : Int32 → uS → Option uS} (hK8 : ∀ (x2 : Int32)  (s : uS) (r : uS), K8 x2 s = some r → GU l D A B Z mX2_readText 2 (r, none) s 8 [(0, .ref (B + 7)), (2, .int x2)] []) {x2 : Int32} {s : uS} {r : uS}  (h : fb_X2_readText_8 K8 x2 s = some r) : GU l D A B Z mX2_readText 2 (r, none) s 8 [(0, .ref (B + 7)), (2, .int x2)] [] := by
  unfold fb_X2_readText_8 at h
  refine uu_iload_n dX2_readText_8 rfl (List.mem_of_getElem? (i := 1) rfl) ?_
  refine uu_aload_n dX2_readText_9 rfl (List.mem_of_getElem? (i := 0) rfl) ?_
  refine uu_geti (ci := 2) (N := 9) fX2_29 (by decide) so_7.is (by decide) (by decide) dX2_readText_10 ?_
  refine uu_icmp_ge (tgt := 177) dX2_readText_13 (by decide) (fun c1 => ?_) (fun c1 => ?_)
  · replace h := uu_pos c1 h
    refine uu_aload_n dX2_readText_177 rfl (List.mem_of_getElem? (i := 0) rfl) ?_
    refine uu_iload_n dX2_readText_178 rfl (List.mem_of_getElem? (i := 1) rfl) ?_
    refine uu_puti (ft := .int) (ci := 2) (N := 9) fX2_26 ptX2 (Or.inl rfl) (by decide) so_7.is (by decide) (by decide) (by decide +kernel) rfl rfl dX2_readText_179 ?_
    have hr := Option.some.inj h
    subst hr
    exact uu_vret rfl dX2_readText_182
  · replace h := uu_neg c1 h
    refine uu_aload_n dX2_readText_16 rfl (List.mem_of_getElem? (i := 0) rfl) ?_
    refine uu_geta (ci := 2) (N := 9) fX2_14 (by decide) so_7.is (by decide) (c := 8) (by decide) dX2_readText_17 ?_
    refine uu_geti (ci := 9) (N := 6) fX2_117 (by decide) so_8.is (by decide) (by decide) dX2_readText_20 ?_
    refine uu_aload_n dX2_readText_23 rfl (List.mem_of_getElem? (i := 0) rfl) ?_
    refine uu_geta (ci := 2) (N := 9) fX2_14 (by decide) so_7.is (by decide) (c := 8) (by decide) dX2_readText_24 ?_
    refine uu_geti (ci := 9) (N := 6) fX2_120 (by decide) so_8.is (by decide) (by decide) dX2_readText_27 ?_
    refine uu_isub dX2_readText_30 ?_
    refine uu_sipush (v := 1000) dX2_readText_31 (by decide) ?_
    refine uu_icmp_gt (tgt := 177) dX2_readText_34 (by decide) (fun c2 => ?_) (fun c2 => ?_)
    · replace h := uu_pos c2 h
      refine uu_aload_n dX2_readText_177 rfl (List.mem_of_getElem? (i := 0) rfl) ?_
      refine uu_iload_n dX2_readText_178 rfl (List.mem_of_getElem? (i := 1) rfl) ?_
      refine uu_puti (ft := .int) (ci := 2) (N := 9) fX2_26 ptX2 (Or.inl rfl) (by decide) so_7.is (by decide) (by decide) (by decide +kernel) rfl rfl dX2_readText_179 ?_
      have hr := Option.some.inj h
      subst hr
      exact uu_vret rfl dX2_readText_182
    · replace h := uu_neg c2 h
      refine uu_aload_n dX2_readText_37 rfl (List.mem_of_getElem? (i := 0) rfl) ?_
      refine uu_geti (ci := 2) (N := 9) fX2_42 (by decide) so_7.is (by decide) (by decide) dX2_readText_38 ?_
      refine uu_bipush (v := 6) dX2_readText_41 (by decide) ?_
      refine uu_icmp_ne (tgt := 177) dX2_readText_43 (by decide) (fun c3 => ?_) (fun c3 => ?_)
      · replace h := uu_neg c3 h
        refine uu_aload_n dX2_readText_177 rfl (List.mem_of_getElem? (i := 0) rfl) ?_
        refine uu_iload_n dX2_readText_178 rfl (List.mem_of_getElem? (i := 1) rfl) ?_
        refine uu_puti (ft := .int) (ci := 2) (N := 9) fX2_26 ptX2 (Or.inl rfl) (by decide) so_7.is (by decide) (by decide) (by decide +kernel) rfl rfl dX2_readText_179 ?_
        have hr := Option.some.inj h
        subst hr
        exact uu_vret rfl dX2_readText_182
      · replace h := uu_pos c3 h
        refine uu_aload_n dX2_readText_46 rfl (List.mem_of_getElem? (i := 0) rfl) ?_
        obtain ⟨j4, e5, h⟩ := uu_ob h
        refine uu_getr (ci := 2) (N := 9) fX2_18 (by decide) so_7.is (by decide) (by decide) e5 dX2_readText_47 ?_
        refine uu_iload_n dX2_readText_50 rfl (List.mem_of_getElem? (i := 1) rfl) ?_
        refine uu_aload_n dX2_readText_51 rfl (List.mem_of_getElem? (i := 0) rfl) ?_
        refine uu_geti (ci := 2) (N := 9) fX2_29 (by decide) so_7.is (by decide) (by decide) dX2_readText_52 ?_
        refine uu_bipush (v := 10) dX2_readText_55 (by decide) ?_
        obtain ⟨v6, e7, h⟩ := uu_ob h
        refine uu_cs (d1 := 0) (As := [.ref (B + j4), .int x2, .int (s.I 7 5), .int 10]) (st := []) (st' := [.int v6]) (xc_X9_find uk  e7) kX9_find lX2_84 sX9_find (by decide) (Nat.le_of_ble_eq_true rfl) dX2_readText_57 rfl ?_
        refine uu_istore_n dX2_readText_60 rfl (by decide) rfl ?_
        refine uu_iload_n dX2_readText_61 rfl (List.mem_of_getElem? (i := 0) rfl) ?_
        refine uu_if_ge (tgt := 66) dX2_readText_62 (by decide) (fun c8 => ?_) (fun c8 => ?_)
        · replace h := uu_pos c8 h
          refine uu_aload_n dX2_readText_66 rfl (List.mem_of_getElem? (i := 1) rfl) ?_
          obtain ⟨j9, e10, h⟩ := uu_ob h
          refine uu_getr (ci := 2) (N := 9) fX2_18 (by decide) so_7.is (by decide) (by decide) e10 dX2_readText_67 ?_
          refine uu_iload_n dX2_readText_70 rfl (List.mem_of_getElem? (i := 2) rfl) ?_
          obtain ⟨v11, e12, h⟩ := uu_ob h
          refine uu_bald e12 dX2_readText_71 ?_
          refine uu_bipush (v := 46) dX2_readText_72 (by decide) ?_
          refine uu_icmp_ne (tgt := 81) dX2_readText_74 (by decide) (fun c13 => ?_) (fun c13 => ?_)
          · replace h := uu_neg c13 h
            refine uu_iconst (v := 0) dX2_readText_81 (by decide) ?_
            refine uu_lv [1, 2, 0] (lv' := [(0, .ref (B + 7)), (2, .int x2), (3, .int v6)]) rfl ?_
            exact xb_X2_readText_82 uk un hK8 h
          · replace h := uu_pos c13 h
            refine uu_iconst (v := 1) dX2_readText_77 (by decide) ?_
            refine uu_goto (tgt := 82) dX2_readText_78 (by decide) ?_
            refine uu_lv [1, 2, 0] (lv' := [(0, .ref (B + 7)), (2, .int x2), (3, .int v6)]) rfl ?_
            exact xb_X2_readText_82 uk un hK8 h
        · replace h := uu_neg c8 h
          have hr := Option.some.inj h
          subst hr
          exact uu_vret rfl dX2_readText_65
def fn_X2_readText_8  : Nat → Int32 → uS → Option uS
  | 0 => fun _ _ => none
  | n + 1 => fb_X2_readText_8 (fn_X2_readText_8  n)
set_option maxRecDepth 100000 in
set_option maxHeartbeats 4000000 in
theorem xn_X2_readText_8 {l : Launch} {D : va_G} {A : Nat → ClassId} {B : Nat} {Z : State → Heap → Prop} {vF : Value} (uk : uK B Z vF) (un : uX A B Z)   : ∀ (n : Nat) (x2 : Int32)  (s : uS) (r : uS), fn_X2_readText_8  n x2 s = some r → GU l D A B Z mX2_readText 2 (r, none) s 8 [(0, .ref (B + 7)), (2, .int x2)] [] := by
  intro n
  induction n with
  | zero => intro x2 s r h
            cases h
  | succ n ih => intro x2 s r h
                 exact xb_X2_readText_8 uk un ih  h
def fn_X2_readText (x1 : Int32) (s : uS) : Option uS := fn_X2_readText_8 uFu x1 (wI s 7 2 6)
set_option maxRecDepth 100000 in
set_option maxHeartbeats 4000000 in
theorem xc_X2_readText {l : Launch} {D : va_G} {A : Nat → ClassId} {B : Nat} {Z : State → Heap → Prop} {vF : Value} (uk : uK B Z vF) (un : uX A B Z) {x1 : Int32} {s : uS} {r : uS}  (h : fn_X2_readText x1 s = some r) : CU l D A B Z 2 mX2_readText s [.ref (B + 7), .int x1] (r, none) := by
  unfold fn_X2_readText at h
  refine cu_of rfl uk.1.1 (Nat.le_of_ble_eq_true rfl) ?_
  show GU _ _ _ _ _ _ _ _ _ 0 [(0, .ref (B + 7)), (1, .int x1)] []
  refine uu_aload_n dX2_readText_0 rfl (List.mem_of_getElem? (i := 0) rfl) ?_
  refine uu_bipush (v := 6) dX2_readText_1 (by decide) ?_
  refine uu_puti (ft := .int) (ci := 2) (N := 9) fX2_42 ptX2 (Or.inl rfl) (by decide) so_7.is (by decide) (by decide) (by decide +kernel) rfl rfl dX2_readText_3 ?_
  refine uu_iload_n dX2_readText_6 rfl (List.mem_of_getElem? (i := 1) rfl) ?_
  refine uu_istore_n dX2_readText_7 rfl (by decide) rfl ?_
  refine uu_lv [1, 0] (lv' := [(0, .ref (B + 7)), (2, .int x1)]) rfl ?_
  exact xn_X2_readText_8 uk un  _ _ _ _ h
abbrev mX2_next : hM := (yX2_next, cX2_next, 3, none)
theorem dX2_next_167 : decode cX2_next 167 = .ok (.putfield 42, 3) := by decide +kernel
theorem dX2_next_170 : decode cX2_next 170 = .ok (.aload_n 0, 1) := by decide +kernel
theorem dX2_next_171 : decode cX2_next 171 = .ok (.dup, 1) := by decide +kernel
theorem dX2_next_172 : decode cX2_next 172 = .ok (.getfield 26, 3) := by decide +kernel
theorem dX2_next_175 : decode cX2_next 175 = .ok (.iconst 1, 1) := by decide +kernel
theorem dX2_next_176 : decode cX2_next 176 = .ok (.iadd, 1) := by decide +kernel
theorem dX2_next_177 : decode cX2_next 177 = .ok (.putfield 26, 3) := by decide +kernel
theorem dX2_next_180 : decode cX2_next 180 = .ok (.return_, 1) := by decide +kernel
theorem dX2_next_119 : decode cX2_next 119 = .ok (.iload_n 1, 1) := by decide +kernel
theorem dX2_next_120 : decode cX2_next 120 = .ok (.invokestatic 67, 3) := by decide +kernel
theorem dX2_next_123 : decode cX2_next 123 = .ok (.ifCond .eq 10, 3) := by decide +kernel
theorem dX2_next_133 : decode cX2_next 133 = .ok (.iload_n 1, 1) := by decide +kernel
theorem dX2_next_134 : decode cX2_next 134 = .ok (.bipush 34, 2) := by decide +kernel
theorem dX2_next_136 : decode cX2_next 136 = .ok (.if_icmp .ne 10, 3) := by decide +kernel
theorem dX2_next_146 : decode cX2_next 146 = .ok (.aload_n 0, 1) := by decide +kernel
theorem dX2_next_147 : decode cX2_next 147 = .ok (.iload_n 1, 1) := by decide +kernel
theorem dX2_next_148 : decode cX2_next 148 = .ok (.ifCond .le 17, 3) := by decide +kernel
theorem dX2_next_165 : decode cX2_next 165 = .ok (.bipush 6, 2) := by decide +kernel
theorem dX2_next_151 : decode cX2_next 151 = .ok (.ldc 76, 2) := by decide +kernel
theorem dX2_next_153 : decode cX2_next 153 = .ok (.iload_n 1, 1) := by decide +kernel
theorem dX2_next_154 : decode cX2_next 154 = .ok (.i2c, 1) := by decide +kernel
theorem lX2_78 : Cond.methodLink RX2 78 mJ0_indexOf_0f7a4.1 ∈ lw_g := h_t5 14 rfl rfl
theorem dX2_next_155 : decode cX2_next 155 = .ok (.invokevirtual 78, 3) := by decide +kernel
theorem dX2_next_158 : decode cX2_next 158 = .ok (.ifCond .lt 7, 3) := by decide +kernel
theorem dX2_next_161 : decode cX2_next 161 = .ok (.iconst 4, 1) := by decide +kernel
theorem dX2_next_162 : decode cX2_next 162 = .ok (.goto 5, 3) := by decide +kernel
theorem dX2_next_139 : decode cX2_next 139 = .ok (.aload_n 0, 1) := by decide +kernel
theorem kX2_readQuoted : h_ml mX2_readQuoted 0 := ⟨h_t5 11 rfl rfl, h_t1 3 rfl rfl, ⟨by decide, by decide, by decide +kernel⟩, by decide⟩
theorem lX2_73 : Cond.methodLink RX2 73 mX2_readQuoted.1 ∈ lw_g := h_t5 8 rfl rfl
theorem sX2_readQuoted : Cond.instanceMethod mX2_readQuoted.1 ∈ lw_g ∧ Cond.selects mX2_readQuoted.1.cls mX2_readQuoted.1 mX2_readQuoted.1 ∈ lw_g := ⟨h_t5 10 rfl rfl, h_ins 28 rfl⟩
theorem dX2_next_140 : decode cX2_next 140 = .ok (.invokevirtual 73, 3) := by decide +kernel
theorem dX2_next_143 : decode cX2_next 143 = .ok (.goto 37, 3) := by decide +kernel
theorem dX2_next_126 : decode cX2_next 126 = .ok (.aload_n 0, 1) := by decide +kernel
theorem kX2_readNumber : h_ml mX2_readNumber 0 := ⟨h_t4 239 rfl rfl, h_t1 3 rfl rfl, ⟨by decide, by decide, by decide +kernel⟩, by decide⟩
theorem lX2_70 : Cond.methodLink RX2 70 mX2_readNumber.1 ∈ lw_g := h_t4 236 rfl rfl
theorem sX2_readNumber : Cond.instanceMethod mX2_readNumber.1 ∈ lw_g ∧ Cond.selects mX2_readNumber.1.cls mX2_readNumber.1 mX2_readNumber.1 ∈ lw_g := ⟨h_t4 238 rfl rfl, h_ins 27 rfl⟩
theorem dX2_next_127 : decode cX2_next 127 = .ok (.invokevirtual 70, 3) := by decide +kernel
theorem dX2_next_130 : decode cX2_next 130 = .ok (.goto 50, 3) := by decide +kernel
theorem dX2_next_0 : decode cX2_next 0 = .ok (.aload_n 0, 1) := by decide +kernel
theorem kX2_skipBetween : h_ml mX2_skipBetween 0 := ⟨h_t4 201 rfl rfl, h_t1 3 rfl rfl, ⟨by decide, by decide, by decide +kernel⟩, by decide⟩
theorem lX2_48 : Cond.methodLink RX2 48 mX2_skipBetween.1 ∈ lw_g := h_t4 198 rfl rfl
theorem sX2_skipBetween : Cond.instanceMethod mX2_skipBetween.1 ∈ lw_g ∧ Cond.selects mX2_skipBetween.1.cls mX2_skipBetween.1 mX2_skipBetween.1 ∈ lw_g := ⟨h_t4 200 rfl rfl, h_ins 20 rfl⟩
theorem dX2_next_1 : decode cX2_next 1 = .ok (.invokevirtual 48, 3) := by decide +kernel
theorem dX2_next_4 : decode cX2_next 4 = .ok (.ifCond .ne 10, 3) := by decide +kernel
theorem dX2_next_14 : decode cX2_next 14 = .ok (.aload_n 0, 1) := by decide +kernel
theorem dX2_next_15 : decode cX2_next 15 = .ok (.aload_n 0, 1) := by decide +kernel
theorem dX2_next_16 : decode cX2_next 16 = .ok (.getfield 26, 3) := by decide +kernel
theorem dX2_next_19 : decode cX2_next 19 = .ok (.putfield 45, 3) := by decide +kernel
theorem dX2_next_22 : decode cX2_next 22 = .ok (.aload_n 0, 1) := by decide +kernel
theorem dX2_next_23 : decode cX2_next 23 = .ok (.getfield 26, 3) := by decide +kernel
theorem dX2_next_26 : decode cX2_next 26 = .ok (.aload_n 0, 1) := by decide +kernel
theorem dX2_next_27 : decode cX2_next 27 = .ok (.getfield 29, 3) := by decide +kernel
theorem dX2_next_30 : decode cX2_next 30 = .ok (.if_icmp .lt 9, 3) := by decide +kernel
theorem dX2_next_39 : decode cX2_next 39 = .ok (.aload_n 0, 1) := by decide +kernel
theorem dX2_next_40 : decode cX2_next 40 = .ok (.getfield 18, 3) := by decide +kernel
theorem dX2_next_43 : decode cX2_next 43 = .ok (.aload_n 0, 1) := by decide +kernel
theorem dX2_next_44 : decode cX2_next 44 = .ok (.getfield 26, 3) := by decide +kernel
theorem dX2_next_47 : decode cX2_next 47 = .ok (.baload, 1) := by decide +kernel
theorem dX2_next_48 : decode cX2_next 48 = .ok (.istore_n 1, 1) := by decide +kernel
theorem dX2_next_49 : decode cX2_next 49 = .ok (.aload_n 0, 1) := by decide +kernel
theorem dX2_next_50 : decode cX2_next 50 = .ok (.aload_n 0, 1) := by decide +kernel
theorem dX2_next_51 : decode cX2_next 51 = .ok (.getfield 26, 3) := by decide +kernel
theorem dX2_next_54 : decode cX2_next 54 = .ok (.invokevirtual 52, 3) := by decide +kernel
theorem dX2_next_57 : decode cX2_next 57 = .ok (.ifCond .eq 29, 3) := by decide +kernel
theorem dX2_next_86 : decode cX2_next 86 = .ok (.iload_n 1, 1) := by decide +kernel
theorem dX2_next_87 : decode cX2_next 87 = .ok (.bipush 58, 2) := by decide +kernel
theorem dX2_next_89 : decode cX2_next 89 = .ok (.if_icmp .ne 30, 3) := by decide +kernel
theorem dX2_next_92 : decode cX2_next 92 = .ok (.aload_n 0, 1) := by decide +kernel
theorem dX2_next_93 : decode cX2_next 93 = .ok (.aload_n 0, 1) := by decide +kernel
theorem dX2_next_94 : decode cX2_next 94 = .ok (.getfield 26, 3) := by decide +kernel
theorem dX2_next_97 : decode cX2_next 97 = .ok (.iconst 1, 1) := by decide +kernel
theorem dX2_next_98 : decode cX2_next 98 = .ok (.iadd, 1) := by decide +kernel
theorem dX2_next_99 : decode cX2_next 99 = .ok (.invokevirtual 52, 3) := by decide +kernel
theorem dX2_next_102 : decode cX2_next 102 = .ok (.ifCond .eq 17, 3) := by decide +kernel
theorem dX2_next_105 : decode cX2_next 105 = .ok (.aload_n 0, 1) := by decide +kernel
theorem dX2_next_106 : decode cX2_next 106 = .ok (.aload_n 0, 1) := by decide +kernel
theorem dX2_next_107 : decode cX2_next 107 = .ok (.getfield 26, 3) := by decide +kernel
theorem dX2_next_110 : decode cX2_next 110 = .ok (.iconst 1, 1) := by decide +kernel
theorem dX2_next_111 : decode cX2_next 111 = .ok (.iadd, 1) := by decide +kernel
theorem dX2_next_112 : decode cX2_next 112 = .ok (.iconst 1, 1) := by decide +kernel
theorem kX2_readWord : h_ml mX2_readWord 2 := ⟨h_t4 221 rfl rfl, h_t1 3 rfl rfl, ⟨by decide, by decide, by decide +kernel⟩, by decide⟩
theorem lX2_56 : Cond.methodLink RX2 56 mX2_readWord.1 ∈ lw_g := h_t4 218 rfl rfl
theorem sX2_readWord : Cond.instanceMethod mX2_readWord.1 ∈ lw_g ∧ Cond.selects mX2_readWord.1.cls mX2_readWord.1 mX2_readWord.1 ∈ lw_g := ⟨h_t4 220 rfl rfl, h_ins 24 rfl⟩
theorem dX2_next_113 : decode cX2_next 113 = .ok (.invokevirtual 56, 3) := by decide +kernel
theorem dX2_next_116 : decode cX2_next 116 = .ok (.goto 64, 3) := by decide +kernel
theorem dX2_next_60 : decode cX2_next 60 = .ok (.aload_n 0, 1) := by decide +kernel
theorem dX2_next_61 : decode cX2_next 61 = .ok (.aload_n 0, 1) := by decide +kernel
theorem dX2_next_62 : decode cX2_next 62 = .ok (.getfield 45, 3) := by decide +kernel
theorem dX2_next_65 : decode cX2_next 65 = .ok (.iconst 0, 1) := by decide +kernel
theorem dX2_next_66 : decode cX2_next 66 = .ok (.invokevirtual 56, 3) := by decide +kernel
theorem dX2_next_69 : decode cX2_next 69 = .ok (.aload_n 0, 1) := by decide +kernel
theorem kX2_linesOfText : h_ml mX2_linesOfText 0 := ⟨h_t4 226 rfl rfl, h_t1 3 rfl rfl, ⟨by decide, by decide, by decide +kernel⟩, by decide⟩
theorem lX2_59 : Cond.methodLink RX2 59 mX2_linesOfText.1 ∈ lw_g := h_t4 223 rfl rfl
theorem sX2_linesOfText : Cond.instanceMethod mX2_linesOfText.1 ∈ lw_g ∧ Cond.selects mX2_linesOfText.1.cls mX2_linesOfText.1 mX2_linesOfText.1 ∈ lw_g := ⟨h_t4 225 rfl rfl, h_ins 25 rfl⟩
theorem dX2_next_70 : decode cX2_next 70 = .ok (.invokevirtual 59, 3) := by decide +kernel
theorem dX2_next_73 : decode cX2_next 73 = .ok (.istore_n 2, 1) := by decide +kernel
theorem dX2_next_74 : decode cX2_next 74 = .ok (.iload_n 2, 1) := by decide +kernel
theorem dX2_next_75 : decode cX2_next 75 = .ok (.ifCond .lt 8, 3) := by decide +kernel
theorem dX2_next_83 : decode cX2_next 83 = .ok (.goto 97, 3) := by decide +kernel
theorem dX2_next_78 : decode cX2_next 78 = .ok (.aload_n 0, 1) := by decide +kernel
theorem dX2_next_79 : decode cX2_next 79 = .ok (.iload_n 2, 1) := by decide +kernel
theorem kX2_readText : h_ml mX2_readText 1 := ⟨h_t4 233 rfl rfl, h_t1 3 rfl rfl, ⟨by decide, by decide, by decide +kernel⟩, by decide⟩
theorem lX2_63 : Cond.methodLink RX2 63 mX2_readText.1 ∈ lw_g := h_t4 230 rfl rfl
theorem sX2_readText : Cond.instanceMethod mX2_readText.1 ∈ lw_g ∧ Cond.selects mX2_readText.1.cls mX2_readText.1 mX2_readText.1 ∈ lw_g := ⟨h_t4 232 rfl rfl, h_ins 26 rfl⟩
theorem dX2_next_80 : decode cX2_next 80 = .ok (.invokevirtual 63, 3) := by decide +kernel
theorem dX2_next_33 : decode cX2_next 33 = .ok (.aload_n 0, 1) := by decide +kernel
theorem dX2_next_34 : decode cX2_next 34 = .ok (.iconst 5, 1) := by decide +kernel
theorem dX2_next_35 : decode cX2_next 35 = .ok (.putfield 42, 3) := by decide +kernel
theorem dX2_next_38 : decode cX2_next 38 = .ok (.return_, 1) := by decide +kernel
theorem dX2_next_7 : decode cX2_next 7 = .ok (.aload_n 0, 1) := by decide +kernel
theorem dX2_next_8 : decode cX2_next 8 = .ok (.bipush 6, 2) := by decide +kernel
theorem dX2_next_10 : decode cX2_next 10 = .ok (.putfield 42, 3) := by decide +kernel
theorem dX2_next_13 : decode cX2_next 13 = .ok (.return_, 1) := by decide +kernel
def fb_X2_next_167  (xs0 : Int32) (s : uS) : Option uS := some (wI (wI s 7 2 xs0) 7 8 (((wI s 7 2 xs0).I 7 8) + 1))
set_option maxRecDepth 100000 in
set_option maxHeartbeats 4000000 in
theorem xb_X2_next_167 {l : Launch} {D : va_G} {A : Nat → ClassId} {B : Nat} {Z : State → Heap → Prop} {vF : Value} (uk : uK B Z vF) (un : uX A B Z)   {xs0 : Int32} {s : uS} {r : uS}  (h : fb_X2_next_167  xs0 s = some r) : GU l D A B Z mX2_next 6 (r, none) s 167 [(0, .ref (B + 7))] [.int xs0, .ref (B + 7)] := by
  unfold fb_X2_next_167 at h
  refine uu_puti (ft := .int) (ci := 2) (N := 9) fX2_42 ptX2 (Or.inl rfl) (by decide) so_7.is (by decide) (by decide) (by decide +kernel) rfl rfl dX2_next_167 ?_
  refine uu_aload_n dX2_next_170 rfl (List.mem_of_getElem? (i := 0) rfl) ?_
  refine uu_dup dX2_next_171 rfl ?_
  refine uu_geti (ci := 2) (N := 9) fX2_26 (by decide) so_7.is (by decide) (by decide) dX2_next_172 ?_
  refine uu_iconst (v := 1) dX2_next_175 (by decide) ?_
  refine uu_iadd dX2_next_176 ?_
  refine uu_puti (ft := .int) (ci := 2) (N := 9) fX2_26 ptX2 (Or.inl rfl) (by decide) so_7.is (by decide) (by decide) (by decide +kernel) rfl rfl dX2_next_177 ?_
  have hr := Option.some.inj h
  subst hr
  exact uu_vret rfl dX2_next_180
def fb_X2_next_119  (x1 : Int32) (s : uS) : Option uS := (fn_X9_isDigit x1 s).bind fun v1 => if v1 = true then ((fn_X2_readNumber s).bind fun s11 => some s11) else (if x1 = 34 then ((fn_X2_readQuoted s).bind fun s9 => some s9) else (if x1 ≤ 0 then (fb_X2_next_167 6 s) else (if kW_34.length < 2 ^ 30 then (if (stidx kW_34 ((x1.toUInt32 % 65536).toInt32)) < 0 then (fb_X2_next_167 6 s) else (fb_X2_next_167 4 s)) else none)))
set_option maxRecDepth 100000 in
set_option maxHeartbeats 4000000 in
theorem xb_X2_next_119 {l : Launch} {D : va_G} {A : Nat → ClassId} {B : Nat} {Z : State → Heap → Prop} {vF : Value} (uk : uK B Z vF) (un : uX A B Z)   {x1 : Int32} {s : uS} {r : uS}  (h : fb_X2_next_119  x1 s = some r) : GU l D A B Z mX2_next 6 (r, none) s 119 [(0, .ref (B + 7)), (1, .int x1)] [] := by
  unfold fb_X2_next_119 at h
  refine uu_iload_n dX2_next_119 rfl (List.mem_of_getElem? (i := 1) rfl) ?_
  obtain ⟨v1, e2, h⟩ := uu_ob h
  refine uu_cs (d1 := 0) (As := [.int x1]) (st := []) (st' := [.int (bI v1)]) (xc_X9_isDigit uk  e2) kX9_isDigit lX2_67 sX9_isDigit (by decide) (Nat.le_of_ble_eq_true rfl) dX2_next_120 rfl ?_
  refine uu_ifb_eq (tgt := 133) dX2_next_123 (by decide) (fun c3 => ?_) (fun c3 => ?_)
  · replace h := uu_neg c3 h
    refine uu_iload_n dX2_next_133 rfl (List.mem_of_getElem? (i := 1) rfl) ?_
    refine uu_bipush (v := 34) dX2_next_134 (by decide) ?_
    refine uu_icmp_ne (tgt := 146) dX2_next_136 (by decide) (fun c4 => ?_) (fun c4 => ?_)
    · replace h := uu_neg c4 h
      refine uu_aload_n dX2_next_146 rfl (List.mem_of_getElem? (i := 0) rfl) ?_
      refine uu_iload_n dX2_next_147 rfl (List.mem_of_getElem? (i := 1) rfl) ?_
      refine uu_if_le (tgt := 165) dX2_next_148 (by decide) (fun c5 => ?_) (fun c5 => ?_)
      · replace h := uu_pos c5 h
        refine uu_bipush (v := 6) dX2_next_165 (by decide) ?_
        refine uu_lv [0] (lv' := [(0, .ref (B + 7))]) rfl ?_
        exact xb_X2_next_167 uk un  h
      · replace h := uu_neg c5 h
        obtain ⟨cq6, cp6, cv6, cw6⟩ := uk.2.1 34 _ rfl
        refine uu_ldcS cv6 dX2_next_151 ?_
        refine uu_iload_n dX2_next_153 rfl (List.mem_of_getElem? (i := 1) rfl) ?_
        refine uu_i2c dX2_next_154 rfl ?_
        obtain ⟨g7, h⟩ := uu_grd h
        refine uu_sidx uk cw6 g7 lX2_78 (by decide) (Nat.le_of_ble_eq_true rfl) dX2_next_155 ?_
        refine uu_if_lt (tgt := 165) dX2_next_158 (by decide) (fun c8 => ?_) (fun c8 => ?_)
        · replace h := uu_pos c8 h
          refine uu_bipush (v := 6) dX2_next_165 (by decide) ?_
          refine uu_lv [0] (lv' := [(0, .ref (B + 7))]) rfl ?_
          exact xb_X2_next_167 uk un  h
        · replace h := uu_neg c8 h
          refine uu_iconst (v := 4) dX2_next_161 (by decide) ?_
          refine uu_goto (tgt := 167) dX2_next_162 (by decide) ?_
          refine uu_lv [0] (lv' := [(0, .ref (B + 7))]) rfl ?_
          exact xb_X2_next_167 uk un  h
    · replace h := uu_pos c4 h
      refine uu_aload_n dX2_next_139 rfl (List.mem_of_getElem? (i := 0) rfl) ?_
      obtain ⟨s9, e10, h⟩ := uu_ob h
      refine uu_cv (d1 := 1) (k := 7) (ci := 2) (T := TX2) (N := 9) (As := []) (st := []) (st' := []) (xc_X2_readQuoted uk  e10) so_7.is (by decide) rfl kX2_readQuoted lX2_73 sX2_readQuoted (by decide) (Nat.le_of_ble_eq_true rfl) dX2_next_140 rfl ?_
      refine uu_goto (tgt := 180) dX2_next_143 (by decide) ?_
      have hr := Option.some.inj h
      subst hr
      exact uu_vret rfl dX2_next_180
  · replace h := uu_pos c3 h
    refine uu_aload_n dX2_next_126 rfl (List.mem_of_getElem? (i := 0) rfl) ?_
    obtain ⟨s11, e12, h⟩ := uu_ob h
    refine uu_cv (d1 := 2) (k := 7) (ci := 2) (T := TX2) (N := 9) (As := []) (st := []) (st' := []) (xc_X2_readNumber uk  e12) so_7.is (by decide) rfl kX2_readNumber lX2_70 sX2_readNumber (by decide) (Nat.le_of_ble_eq_true rfl) dX2_next_127 rfl ?_
    refine uu_goto (tgt := 180) dX2_next_130 (by decide) ?_
    have hr := Option.some.inj h
    subst hr
    exact uu_vret rfl dX2_next_180
def fn_X2_next  (s : uS) : Option uS := (fn_X2_skipBetween s).bind fun r1 => if r1.2 = true then (if ((wI r1.1 7 6 (r1.1.I 7 8)).I 7 8) < ((wI r1.1 7 6 (r1.1.I 7 8)).I 7 5) then (((wI r1.1 7 6 (r1.1.I 7 8)).R 7 1).bind fun j5 => (iget 21 (wI r1.1 7 6 (r1.1.I 7 8)) j5 ((wI r1.1 7 6 (r1.1.I 7 8)).I 7 8)).bind fun v7 => (fn_X2_isWordStart ((wI r1.1 7 6 (r1.1.I 7 8)).I 7 8) (wI r1.1 7 6 (r1.1.I 7 8))).bind fun v9 => if v9 = true then ((fn_X2_readWord ((wI r1.1 7 6 (r1.1.I 7 8)).I 7 6) 0 (wI r1.1 7 6 (r1.1.I 7 8))).bind fun s18 => (fn_X2_linesOfText s18).bind fun v20 => if v20 < 0 then (some s18) else ((fn_X2_readText v20 s18).bind fun s23 => some s23)) else (if v7 = 58 then ((fn_X2_isWordStart (((wI r1.1 7 6 (r1.1.I 7 8)).I 7 8) + 1) (wI r1.1 7 6 (r1.1.I 7 8))).bind fun v13 => if v13 = true then ((fn_X2_readWord (((wI r1.1 7 6 (r1.1.I 7 8)).I 7 8) + 1) 1 (wI r1.1 7 6 (r1.1.I 7 8))).bind fun s16 => some s16) else (fb_X2_next_119 v7 (wI r1.1 7 6 (r1.1.I 7 8)))) else (fb_X2_next_119 v7 (wI r1.1 7 6 (r1.1.I 7 8))))) else (some (wI (wI r1.1 7 6 (r1.1.I 7 8)) 7 2 5))) else (some (wI r1.1 7 2 6))
set_option maxRecDepth 100000 in
set_option maxHeartbeats 4000000 in
theorem xc_X2_next {l : Launch} {D : va_G} {A : Nat → ClassId} {B : Nat} {Z : State → Heap → Prop} {vF : Value} (uk : uK B Z vF) (un : uX A B Z)  {s : uS} {r : uS}  (h : fn_X2_next  s = some r) : CU l D A B Z 6 mX2_next s [.ref (B + 7)] (r, none) := by
  unfold fn_X2_next at h
  refine cu_of rfl uk.1.1 (Nat.le_of_ble_eq_true rfl) ?_
  show GU _ _ _ _ _ _ _ _ _ 0 [(0, .ref (B + 7))] []
  refine uu_aload_n dX2_next_0 rfl (List.mem_of_getElem? (i := 0) rfl) ?_
  obtain ⟨r1, e2, h⟩ := uu_ob h
  refine uu_cv (d1 := 1) (k := 7) (ci := 2) (T := TX2) (N := 9) (As := []) (st := []) (st' := [.int (bI r1.2)]) (xc_X2_skipBetween uk  e2) so_7.is (by decide) rfl kX2_skipBetween lX2_48 sX2_skipBetween (by decide) (Nat.le_of_ble_eq_true rfl) dX2_next_1 rfl ?_
  refine uu_ifb_ne (tgt := 14) dX2_next_4 (by decide) (fun c3 => ?_) (fun c3 => ?_)
  · replace h := uu_pos c3 h
    refine uu_aload_n dX2_next_14 rfl (List.mem_of_getElem? (i := 0) rfl) ?_
    refine uu_aload_n dX2_next_15 rfl (List.mem_of_getElem? (i := 0) rfl) ?_
    refine uu_geti (ci := 2) (N := 9) fX2_26 (by decide) so_7.is (by decide) (by decide) dX2_next_16 ?_
    refine uu_puti (ft := .int) (ci := 2) (N := 9) fX2_45 ptX2 (Or.inl rfl) (by decide) so_7.is (by decide) (by decide) (by decide +kernel) rfl rfl dX2_next_19 ?_
    refine uu_aload_n dX2_next_22 rfl (List.mem_of_getElem? (i := 0) rfl) ?_
    refine uu_geti (ci := 2) (N := 9) fX2_26 (by decide) so_7.is (by decide) (by decide) dX2_next_23 ?_
    refine uu_aload_n dX2_next_26 rfl (List.mem_of_getElem? (i := 0) rfl) ?_
    refine uu_geti (ci := 2) (N := 9) fX2_29 (by decide) so_7.is (by decide) (by decide) dX2_next_27 ?_
    refine uu_icmp_lt (tgt := 39) dX2_next_30 (by decide) (fun c4 => ?_) (fun c4 => ?_)
    · replace h := uu_pos c4 h
      refine uu_aload_n dX2_next_39 rfl (List.mem_of_getElem? (i := 0) rfl) ?_
      obtain ⟨j5, e6, h⟩ := uu_ob h
      refine uu_getr (ci := 2) (N := 9) fX2_18 (by decide) so_7.is (by decide) (by decide) e6 dX2_next_40 ?_
      refine uu_aload_n dX2_next_43 rfl (List.mem_of_getElem? (i := 0) rfl) ?_
      refine uu_geti (ci := 2) (N := 9) fX2_26 (by decide) so_7.is (by decide) (by decide) dX2_next_44 ?_
      obtain ⟨v7, e8, h⟩ := uu_ob h
      refine uu_bald e8 dX2_next_47 ?_
      refine uu_istore_n dX2_next_48 rfl (by decide) rfl ?_
      refine uu_aload_n dX2_next_49 rfl (List.mem_of_getElem? (i := 1) rfl) ?_
      refine uu_aload_n dX2_next_50 rfl (List.mem_of_getElem? (i := 1) rfl) ?_
      refine uu_geti (ci := 2) (N := 9) fX2_26 (by decide) so_7.is (by decide) (by decide) dX2_next_51 ?_
      obtain ⟨v9, e10, h⟩ := uu_ob h
      refine uu_cv (d1 := 1) (k := 7) (ci := 2) (T := TX2) (N := 9) (As := [.int ((wI r1.1 7 6 (r1.1.I 7 8)).I 7 8)]) (st := []) (st' := [.int (bI v9)]) (xc_X2_isWordStart uk  e10) so_7.is (by decide) rfl kX2_isWordStart lX2_52 sX2_isWordStart (by decide) (Nat.le_of_ble_eq_true rfl) dX2_next_54 rfl ?_
      refine uu_ifb_eq (tgt := 86) dX2_next_57 (by decide) (fun c11 => ?_) (fun c11 => ?_)
      · replace h := uu_neg c11 h
        refine uu_iload_n dX2_next_86 rfl (List.mem_of_getElem? (i := 0) rfl) ?_
        refine uu_bipush (v := 58) dX2_next_87 (by decide) ?_
        refine uu_icmp_ne (tgt := 119) dX2_next_89 (by decide) (fun c12 => ?_) (fun c12 => ?_)
        · replace h := uu_neg c12 h
          refine uu_lv [1, 0] (lv' := [(0, .ref (B + 7)), (1, .int v7)]) rfl ?_
          exact xb_X2_next_119 uk un  h
        · replace h := uu_pos c12 h
          refine uu_aload_n dX2_next_92 rfl (List.mem_of_getElem? (i := 1) rfl) ?_
          refine uu_aload_n dX2_next_93 rfl (List.mem_of_getElem? (i := 1) rfl) ?_
          refine uu_geti (ci := 2) (N := 9) fX2_26 (by decide) so_7.is (by decide) (by decide) dX2_next_94 ?_
          refine uu_iconst (v := 1) dX2_next_97 (by decide) ?_
          refine uu_iadd dX2_next_98 ?_
          obtain ⟨v13, e14, h⟩ := uu_ob h
          refine uu_cv (d1 := 1) (k := 7) (ci := 2) (T := TX2) (N := 9) (As := [.int (((wI r1.1 7 6 (r1.1.I 7 8)).I 7 8) + 1)]) (st := []) (st' := [.int (bI v13)]) (xc_X2_isWordStart uk  e14) so_7.is (by decide) rfl kX2_isWordStart lX2_52 sX2_isWordStart (by decide) (Nat.le_of_ble_eq_true rfl) dX2_next_99 rfl ?_
          refine uu_ifb_eq (tgt := 119) dX2_next_102 (by decide) (fun c15 => ?_) (fun c15 => ?_)
          · replace h := uu_neg c15 h
            refine uu_lv [1, 0] (lv' := [(0, .ref (B + 7)), (1, .int v7)]) rfl ?_
            exact xb_X2_next_119 uk un  h
          · replace h := uu_pos c15 h
            refine uu_aload_n dX2_next_105 rfl (List.mem_of_getElem? (i := 1) rfl) ?_
            refine uu_aload_n dX2_next_106 rfl (List.mem_of_getElem? (i := 1) rfl) ?_
            refine uu_geti (ci := 2) (N := 9) fX2_26 (by decide) so_7.is (by decide) (by decide) dX2_next_107 ?_
            refine uu_iconst (v := 1) dX2_next_110 (by decide) ?_
            refine uu_iadd dX2_next_111 ?_
            refine uu_iconst (v := 1) dX2_next_112 (by decide) ?_
            obtain ⟨s16, e17, h⟩ := uu_ob h
            refine uu_cv (d1 := 2) (k := 7) (ci := 2) (T := TX2) (N := 9) (As := [.int (((wI r1.1 7 6 (r1.1.I 7 8)).I 7 8) + 1), .int 1]) (st := []) (st' := []) (xc_X2_readWord uk  e17) so_7.is (by decide) rfl kX2_readWord lX2_56 sX2_readWord (by decide) (Nat.le_of_ble_eq_true rfl) dX2_next_113 rfl ?_
            refine uu_goto (tgt := 180) dX2_next_116 (by decide) ?_
            have hr := Option.some.inj h
            subst hr
            exact uu_vret rfl dX2_next_180
      · replace h := uu_pos c11 h
        refine uu_aload_n dX2_next_60 rfl (List.mem_of_getElem? (i := 1) rfl) ?_
        refine uu_aload_n dX2_next_61 rfl (List.mem_of_getElem? (i := 1) rfl) ?_
        refine uu_geti (ci := 2) (N := 9) fX2_45 (by decide) so_7.is (by decide) (by decide) dX2_next_62 ?_
        refine uu_iconst (v := 0) dX2_next_65 (by decide) ?_
        obtain ⟨s18, e19, h⟩ := uu_ob h
        refine uu_cv (d1 := 2) (k := 7) (ci := 2) (T := TX2) (N := 9) (As := [.int ((wI r1.1 7 6 (r1.1.I 7 8)).I 7 6), .int 0]) (st := []) (st' := []) (xc_X2_readWord uk  e19) so_7.is (by decide) rfl kX2_readWord lX2_56 sX2_readWord (by decide) (Nat.le_of_ble_eq_true rfl) dX2_next_66 rfl ?_
        refine uu_aload_n dX2_next_69 rfl (List.mem_of_getElem? (i := 1) rfl) ?_
        obtain ⟨v20, e21, h⟩ := uu_ob h
        refine uu_cv (d1 := 5) (k := 7) (ci := 2) (T := TX2) (N := 9) (As := []) (st := []) (st' := [.int v20]) (xc_X2_linesOfText uk  e21) so_7.is (by decide) rfl kX2_linesOfText lX2_59 sX2_linesOfText (by decide) (Nat.le_of_ble_eq_true rfl) dX2_next_70 rfl ?_
        refine uu_istore_n dX2_next_73 rfl (by decide) rfl ?_
        refine uu_iload_n dX2_next_74 rfl (List.mem_of_getElem? (i := 0) rfl) ?_
        refine uu_if_lt (tgt := 83) dX2_next_75 (by decide) (fun c22 => ?_) (fun c22 => ?_)
        · replace h := uu_pos c22 h
          refine uu_goto (tgt := 180) dX2_next_83 (by decide) ?_
          have hr := Option.some.inj h
          subst hr
          exact uu_vret rfl dX2_next_180
        · replace h := uu_neg c22 h
          refine uu_aload_n dX2_next_78 rfl (List.mem_of_getElem? (i := 2) rfl) ?_
          refine uu_iload_n dX2_next_79 rfl (List.mem_of_getElem? (i := 0) rfl) ?_
          obtain ⟨s23, e24, h⟩ := uu_ob h
          refine uu_cv (d1 := 2) (k := 7) (ci := 2) (T := TX2) (N := 9) (As := [.int v20]) (st := []) (st' := []) (xc_X2_readText uk un  e24) so_7.is (by decide) rfl kX2_readText lX2_63 sX2_readText (by decide) (Nat.le_of_ble_eq_true rfl) dX2_next_80 rfl ?_
          refine uu_goto (tgt := 180) dX2_next_83 (by decide) ?_
          have hr := Option.some.inj h
          subst hr
          exact uu_vret rfl dX2_next_180
    · replace h := uu_neg c4 h
      refine uu_aload_n dX2_next_33 rfl (List.mem_of_getElem? (i := 0) rfl) ?_
      refine uu_iconst (v := 5) dX2_next_34 (by decide) ?_
      refine uu_puti (ft := .int) (ci := 2) (N := 9) fX2_42 ptX2 (Or.inl rfl) (by decide) so_7.is (by decide) (by decide) (by decide +kernel) rfl rfl dX2_next_35 ?_
      have hr := Option.some.inj h
      subst hr
      exact uu_vret rfl dX2_next_38
  · replace h := uu_neg c3 h
    refine uu_aload_n dX2_next_7 rfl (List.mem_of_getElem? (i := 0) rfl) ?_
    refine uu_bipush (v := 6) dX2_next_8 (by decide) ?_
    refine uu_puti (ft := .int) (ci := 2) (N := 9) fX2_42 ptX2 (Or.inl rfl) (by decide) so_7.is (by decide) (by decide) (by decide +kernel) rfl rfl dX2_next_10 ?_
    have hr := Option.some.inj h
    subst hr
    exact uu_vret rfl dX2_next_13
abbrev mX3_reset : hM := (yX3_reset, cX3_reset, 4, none)
theorem dX3_reset_0 : decode cX3_reset 0 = .ok (.aload_n 0, 1) := by decide +kernel
theorem dX3_reset_1 : decode cX3_reset 1 = .ok (.iload_n 1, 1) := by decide +kernel
theorem dX3_reset_2 : decode cX3_reset 2 = .ok (.putfield 16, 3) := by decide +kernel
theorem dX3_reset_5 : decode cX3_reset 5 = .ok (.aload_n 0, 1) := by decide +kernel
theorem dX3_reset_6 : decode cX3_reset 6 = .ok (.iload_n 2, 1) := by decide +kernel
theorem fX3_20 : h_fl RX3 20 3 1 RX3 TX3 15 := ⟨rfl, by decide, inX3, h_t1 155 rfl rfl⟩
theorem dX3_reset_7 : decode cX3_reset 7 = .ok (.putfield 20, 3) := by decide +kernel
theorem dX3_reset_10 : decode cX3_reset 10 = .ok (.aload_n 0, 1) := by decide +kernel
theorem dX3_reset_11 : decode cX3_reset 11 = .ok (.iload_n 3, 1) := by decide +kernel
theorem fX3_23 : h_fl RX3 23 3 2 RX3 TX3 15 := ⟨rfl, by decide, inX3, h_t1 157 rfl rfl⟩
theorem dX3_reset_12 : decode cX3_reset 12 = .ok (.putfield 23, 3) := by decide +kernel
theorem dX3_reset_15 : decode cX3_reset 15 = .ok (.aload_n 0, 1) := by decide +kernel
theorem dX3_reset_16 : decode cX3_reset 16 = .ok (.iconst 0, 1) := by decide +kernel
theorem dX3_reset_17 : decode cX3_reset 17 = .ok (.putfield 26, 3) := by decide +kernel
theorem dX3_reset_20 : decode cX3_reset 20 = .ok (.aload_n 0, 1) := by decide +kernel
theorem dX3_reset_21 : decode cX3_reset 21 = .ok (.iconst 0, 1) := by decide +kernel
theorem dX3_reset_22 : decode cX3_reset 22 = .ok (.putfield 29, 3) := by decide +kernel
theorem dX3_reset_25 : decode cX3_reset 25 = .ok (.aload_n 0, 1) := by decide +kernel
theorem dX3_reset_26 : decode cX3_reset 26 = .ok (.iconst 0, 1) := by decide +kernel
theorem dX3_reset_27 : decode cX3_reset 27 = .ok (.putfield 32, 3) := by decide +kernel
theorem dX3_reset_30 : decode cX3_reset 30 = .ok (.aload_n 0, 1) := by decide +kernel
theorem dX3_reset_31 : decode cX3_reset 31 = .ok (.iconst 0, 1) := by decide +kernel
theorem fX3_35 : h_fl RX3 35 3 9 RX3 TX3 15 := ⟨rfl, by decide, inX3, h_t1 173 rfl rfl⟩
theorem dX3_reset_32 : decode cX3_reset 32 = .ok (.putfield 35, 3) := by decide +kernel
theorem dX3_reset_35 : decode cX3_reset 35 = .ok (.aload_n 0, 1) := by decide +kernel
theorem dX3_reset_36 : decode cX3_reset 36 = .ok (.iconst 0, 1) := by decide +kernel
theorem fX3_38 : h_fl RX3 38 3 11 RX3 TX3 15 := ⟨rfl, by decide, inX3, h_t1 179 rfl rfl⟩
theorem dX3_reset_37 : decode cX3_reset 37 = .ok (.putfield 38, 3) := by decide +kernel
theorem dX3_reset_40 : decode cX3_reset 40 = .ok (.aload_n 0, 1) := by decide +kernel
theorem dX3_reset_41 : decode cX3_reset 41 = .ok (.getfield 13, 3) := by decide +kernel
theorem dX3_reset_44 : decode cX3_reset 44 = .ok (.iconst 0, 1) := by decide +kernel
theorem kJ7_fill_53178 : h_ml mJ7_fill_53178 2 := ⟨h_t4 189 rfl rfl, h_t1 20 rfl rfl, ⟨by decide, by decide, by decide +kernel⟩, by decide⟩
theorem lX3_41 : Cond.methodLink RX3 41 mJ7_fill_53178.1 ∈ lw_g := h_t4 187 rfl rfl
theorem sJ7_fill_53178 : Cond.static mJ7_fill_53178.1 ∈ lw_g := h_t4 188 rfl rfl
theorem dX3_reset_45 : decode cX3_reset 45 = .ok (.invokestatic 41, 3) := by decide +kernel
theorem dX3_reset_48 : decode cX3_reset 48 = .ok (.return_, 1) := by decide +kernel
def fn_X3_reset (k0 : Nat) (x1 : Int32) (x2 : Int32) (x3 : Int32) (s : uS) : Option uS := (fn_J7_fill_53178 (k0 + 2) 0 (wI (wI (wI (wI (wI (wI (wI (wI s k0 0 x1) k0 1 x2) k0 2 x3) k0 5 0) k0 6 0) k0 8 0) k0 9 0) k0 11 0)).bind fun s1 => some s1
set_option maxRecDepth 100000 in
set_option maxHeartbeats 4000000 in
theorem xc_X3_reset {l : Launch} {D : va_G} {A : Nat → ClassId} {B : Nat} {Z : State → Heap → Prop} {vF : Value} (uk : uK B Z vF) (un : uX A B Z) {k0 : Nat} {x1 : Int32} {x2 : Int32} {x3 : Int32} {s : uS} {r : uS} (hk0 : uSo k0 3) (h : fn_X3_reset k0 x1 x2 x3 s = some r) : CU l D A B Z 1 mX3_reset s [.ref (B + k0), .int x1, .int x2, .int x3] (r, none) := by
  unfold fn_X3_reset at h
  refine cu_of rfl uk.1.1 (Nat.le_of_ble_eq_true rfl) ?_
  show GU _ _ _ _ _ _ _ _ _ 0 [(0, .ref (B + k0)), (1, .int x1), (2, .int x2), (3, .int x3)] []
  refine uu_aload_n dX3_reset_0 rfl (List.mem_of_getElem? (i := 0) rfl) ?_
  refine uu_iload_n dX3_reset_1 rfl (List.mem_of_getElem? (i := 1) rfl) ?_
  refine uu_puti (ft := .int) (ci := 3) (N := 15) fX3_16 ptX3 (Or.inl rfl) (by decide) hk0.is (by decide) (by decide) (by decide +kernel) rfl rfl dX3_reset_2 ?_
  refine uu_aload_n dX3_reset_5 rfl (List.mem_of_getElem? (i := 0) rfl) ?_
  refine uu_iload_n dX3_reset_6 rfl (List.mem_of_getElem? (i := 2) rfl) ?_
  refine uu_puti (ft := .int) (ci := 3) (N := 15) fX3_20 ptX3 (Or.inl rfl) (by decide) hk0.is (by decide) (by decide) (by decide +kernel) rfl rfl dX3_reset_7 ?_
  refine uu_aload_n dX3_reset_10 rfl (List.mem_of_getElem? (i := 0) rfl) ?_
  refine uu_iload_n dX3_reset_11 rfl (List.mem_of_getElem? (i := 3) rfl) ?_
  refine uu_puti (ft := .int) (ci := 3) (N := 15) fX3_23 ptX3 (Or.inl rfl) (by decide) hk0.is (by decide) (by decide) (by decide +kernel) rfl rfl dX3_reset_12 ?_
  refine uu_aload_n dX3_reset_15 rfl (List.mem_of_getElem? (i := 0) rfl) ?_
  refine uu_iconst (v := 0) dX3_reset_16 (by decide) ?_
  refine uu_puti (ft := .int) (ci := 3) (N := 15) fX3_26 ptX3 (Or.inl rfl) (by decide) hk0.is (by decide) (by decide) (by decide +kernel) rfl rfl dX3_reset_17 ?_
  refine uu_aload_n dX3_reset_20 rfl (List.mem_of_getElem? (i := 0) rfl) ?_
  refine uu_iconst (v := 0) dX3_reset_21 (by decide) ?_
  refine uu_puti (ft := .int) (ci := 3) (N := 15) fX3_29 ptX3 (Or.inl rfl) (by decide) hk0.is (by decide) (by decide) (by decide +kernel) rfl rfl dX3_reset_22 ?_
  refine uu_aload_n dX3_reset_25 rfl (List.mem_of_getElem? (i := 0) rfl) ?_
  refine uu_iconst (v := 0) dX3_reset_26 (by decide) ?_
  refine uu_puti (ft := .int) (ci := 3) (N := 15) fX3_32 ptX3 (Or.inl rfl) (by decide) hk0.is (by decide) (by decide) (by decide +kernel) rfl rfl dX3_reset_27 ?_
  refine uu_aload_n dX3_reset_30 rfl (List.mem_of_getElem? (i := 0) rfl) ?_
  refine uu_iconst (v := 0) dX3_reset_31 (by decide) ?_
  refine uu_puti (ft := .int) (ci := 3) (N := 15) fX3_35 ptX3 (Or.inl rfl) (by decide) hk0.is (by decide) (by decide) (by decide +kernel) rfl rfl dX3_reset_32 ?_
  refine uu_aload_n dX3_reset_35 rfl (List.mem_of_getElem? (i := 0) rfl) ?_
  refine uu_iconst (v := 0) dX3_reset_36 (by decide) ?_
  refine uu_puti (ft := .int) (ci := 3) (N := 15) fX3_38 ptX3 (Or.inl rfl) (by decide) hk0.is (by decide) (by decide) (by decide +kernel) rfl rfl dX3_reset_37 ?_
  refine uu_aload_n dX3_reset_40 rfl (List.mem_of_getElem? (i := 0) rfl) ?_
  refine uu_getc (ci := 3) (N := 15) fX3_13 (by decide) hk0.is (by decide) (c := 2) (by decide) (k2 := k0 + 2) rfl dX3_reset_41 ?_
  refine uu_iconst (v := 0) dX3_reset_44 (by decide) ?_
  obtain ⟨s1, e2, h⟩ := uu_ob h
  refine uu_cs (d1 := 0) (As := [.ref (B + (k0 + 2)), .int 0]) (st := []) (st' := []) (xc_J7_fill_53178 uk un  e2) kJ7_fill_53178 lX3_41 sJ7_fill_53178 (by decide) (Nat.le_of_ble_eq_true rfl) dX3_reset_45 rfl ?_
  have hr := Option.some.inj h
  subst hr
  exact uu_vret rfl dX3_reset_48
abbrev mX4_addNode : hM := (yX4_addNode, cX4_addNode, 5, (some (.int)))
theorem dX4_addNode_0 : decode cX4_addNode 0 = .ok (.aload_n 0, 1) := by decide +kernel
theorem dX4_addNode_1 : decode cX4_addNode 1 = .ok (.getfield 44, 3) := by decide +kernel
theorem dX4_addNode_4 : decode cX4_addNode 4 = .ok (.sipush 320, 3) := by decide +kernel
theorem dX4_addNode_7 : decode cX4_addNode 7 = .ok (.if_icmp .lt 5, 3) := by decide +kernel
theorem dX4_addNode_12 : decode cX4_addNode 12 = .ok (.aload_n 0, 1) := by decide +kernel
theorem dX4_addNode_13 : decode cX4_addNode 13 = .ok (.getfield 44, 3) := by decide +kernel
theorem dX4_addNode_16 : decode cX4_addNode 16 = .ok (.istore 4, 2) := by decide +kernel
theorem dX4_addNode_18 : decode cX4_addNode 18 = .ok (.aload_n 0, 1) := by decide +kernel
theorem dX4_addNode_19 : decode cX4_addNode 19 = .ok (.dup, 1) := by decide +kernel
theorem dX4_addNode_20 : decode cX4_addNode 20 = .ok (.getfield 44, 3) := by decide +kernel
theorem dX4_addNode_23 : decode cX4_addNode 23 = .ok (.iconst 1, 1) := by decide +kernel
theorem dX4_addNode_24 : decode cX4_addNode 24 = .ok (.iadd, 1) := by decide +kernel
theorem dX4_addNode_25 : decode cX4_addNode 25 = .ok (.putfield 44, 3) := by decide +kernel
theorem dX4_addNode_28 : decode cX4_addNode 28 = .ok (.aload_n 0, 1) := by decide +kernel
theorem dX4_addNode_29 : decode cX4_addNode 29 = .ok (.getfield 18, 3) := by decide +kernel
theorem dX4_addNode_32 : decode cX4_addNode 32 = .ok (.iload 4, 2) := by decide +kernel
theorem dX4_addNode_34 : decode cX4_addNode 34 = .ok (.aaload, 1) := by decide +kernel
theorem dX4_addNode_35 : decode cX4_addNode 35 = .ok (.iload_n 1, 1) := by decide +kernel
theorem dX4_addNode_36 : decode cX4_addNode 36 = .ok (.iload_n 2, 1) := by decide +kernel
theorem dX4_addNode_37 : decode cX4_addNode 37 = .ok (.iload_n 3, 1) := by decide +kernel
theorem kX3_reset : h_ml mX3_reset 3 := ⟨h_t4 186 rfl rfl, h_t1 5 rfl rfl, ⟨by decide, by decide, by decide +kernel⟩, by decide⟩
theorem lX4_117 : Cond.methodLink RX4 117 mX3_reset.1 ∈ lw_g := h_t4 183 rfl rfl
theorem sX3_reset : Cond.instanceMethod mX3_reset.1 ∈ lw_g ∧ Cond.selects mX3_reset.1.cls mX3_reset.1 mX3_reset.1 ∈ lw_g := ⟨h_t4 184 rfl rfl, h_t4 185 rfl rfl⟩
theorem dX4_addNode_38 : decode cX4_addNode 38 = .ok (.invokevirtual 117, 3) := by decide +kernel
theorem dX4_addNode_41 : decode cX4_addNode 41 = .ok (.aload_n 0, 1) := by decide +kernel
theorem dX4_addNode_42 : decode cX4_addNode 42 = .ok (.getfield 18, 3) := by decide +kernel
theorem dX4_addNode_45 : decode cX4_addNode 45 = .ok (.iload 4, 2) := by decide +kernel
theorem dX4_addNode_47 : decode cX4_addNode 47 = .ok (.aaload, 1) := by decide +kernel
theorem dX4_addNode_48 : decode cX4_addNode 48 = .ok (.aload_n 0, 1) := by decide +kernel
theorem dX4_addNode_49 : decode cX4_addNode 49 = .ok (.getfield 44, 3) := by decide +kernel
theorem dX4_addNode_52 : decode cX4_addNode 52 = .ok (.putfield 121, 3) := by decide +kernel
theorem dX4_addNode_55 : decode cX4_addNode 55 = .ok (.aload_n 0, 1) := by decide +kernel
theorem dX4_addNode_56 : decode cX4_addNode 56 = .ok (.getfield 18, 3) := by decide +kernel
theorem dX4_addNode_59 : decode cX4_addNode 59 = .ok (.iload 4, 2) := by decide +kernel
theorem dX4_addNode_61 : decode cX4_addNode 61 = .ok (.aaload, 1) := by decide +kernel
theorem dX4_addNode_62 : decode cX4_addNode 62 = .ok (.aload_n 0, 1) := by decide +kernel
theorem dX4_addNode_63 : decode cX4_addNode 63 = .ok (.getfield 44, 3) := by decide +kernel
theorem fX4_124 : h_fl RX4 124 3 4 RX3 TX3 15 := ⟨rfl, by decide, inX3, h_t1 162 rfl rfl⟩
theorem dX4_addNode_66 : decode cX4_addNode 66 = .ok (.putfield 124, 3) := by decide +kernel
theorem dX4_addNode_69 : decode cX4_addNode 69 = .ok (.iload 4, 2) := by decide +kernel
theorem dX4_addNode_71 : decode cX4_addNode 71 = .ok (.ireturn, 1) := by decide +kernel
theorem dX4_addNode_10 : decode cX4_addNode 10 = .ok (.iconst 0, 1) := by decide +kernel
theorem dX4_addNode_11 : decode cX4_addNode 11 = .ok (.ireturn, 1) := by decide +kernel
def fn_X4_addNode (x1 : Int32) (x2 : Int32) (x3 : Int32) (s : uS) : Option (uS × Int32) := if (s.I 6 2) < 320 then ((pgt 28 (wI s 6 2 ((s.I 6 2) + 1)) 13 (s.I 6 2)).bind fun j2 => if uSo j2 3 then ((fn_X3_reset j2 x1 x2 x3 (wI s 6 2 ((s.I 6 2) + 1))).bind fun s5 => (pgt 28 s5 13 (s.I 6 2)).bind fun j7 => if uSo j7 3 then ((pgt 28 (wI s5 j7 3 (s5.I 6 2)) 13 (s.I 6 2)).bind fun j10 => if uSo j10 3 then (some (wI (wI s5 j7 3 (s5.I 6 2)) j10 4 ((wI s5 j7 3 (s5.I 6 2)).I 6 2), s.I 6 2)) else none) else none) else none) else (some (s, (0 : Int32)))
set_option maxRecDepth 100000 in
set_option maxHeartbeats 4000000 in
theorem xc_X4_addNode {l : Launch} {D : va_G} {A : Nat → ClassId} {B : Nat} {Z : State → Heap → Prop} {vF : Value} (uk : uK B Z vF) (un : uX A B Z) {x1 : Int32} {x2 : Int32} {x3 : Int32} {s : uS} {r : (uS × Int32)}  (h : fn_X4_addNode x1 x2 x3 s = some r) : CU l D A B Z 2 mX4_addNode s [.ref (B + 6), .int x1, .int x2, .int x3] (r.1, some (.int r.2)) := by
  unfold fn_X4_addNode at h
  refine cu_of rfl uk.1.1 (Nat.le_of_ble_eq_true rfl) ?_
  show GU _ _ _ _ _ _ _ _ _ 0 [(0, .ref (B + 6)), (1, .int x1), (2, .int x2), (3, .int x3)] []
  refine uu_aload_n dX4_addNode_0 rfl (List.mem_of_getElem? (i := 0) rfl) ?_
  refine uu_geti (ci := 4) (N := 9) fX4_44 (by decide) so_6.is (by decide) (by decide) dX4_addNode_1 ?_
  refine uu_sipush (v := 320) dX4_addNode_4 (by decide) ?_
  refine uu_icmp_lt (tgt := 12) dX4_addNode_7 (by decide) (fun c1 => ?_) (fun c1 => ?_)
  · replace h := uu_pos c1 h
    refine uu_aload_n dX4_addNode_12 rfl (List.mem_of_getElem? (i := 0) rfl) ?_
    refine uu_geti (ci := 4) (N := 9) fX4_44 (by decide) so_6.is (by decide) (by decide) dX4_addNode_13 ?_
    refine uu_istore dX4_addNode_16 (by decide) rfl ?_
    refine uu_aload_n dX4_addNode_18 rfl (List.mem_of_getElem? (i := 1) rfl) ?_
    refine uu_dup dX4_addNode_19 rfl ?_
    refine uu_geti (ci := 4) (N := 9) fX4_44 (by decide) so_6.is (by decide) (by decide) dX4_addNode_20 ?_
    refine uu_iconst (v := 1) dX4_addNode_23 (by decide) ?_
    refine uu_iadd dX4_addNode_24 ?_
    refine uu_puti (ft := .int) (ci := 4) (N := 9) fX4_44 ptX4 (Or.inl rfl) (by decide) so_6.is (by decide) (by decide) (by decide +kernel) rfl rfl dX4_addNode_25 ?_
    refine uu_aload_n dX4_addNode_28 rfl (List.mem_of_getElem? (i := 1) rfl) ?_
    refine uu_geta (ci := 4) (N := 9) fX4_18 (by decide) so_6.is (by decide) (c := 13) (by decide) dX4_addNode_29 ?_
    refine uu_iload dX4_addNode_32 (List.mem_of_getElem? (i := 0) rfl) ?_
    obtain ⟨j2, e3, h⟩ := uu_ob h
    refine uu_aald (t := 28) rfl (by decide) e3 dX4_addNode_34 ?_
    obtain ⟨g4, h⟩ := uu_grd h
    refine uu_iload_n dX4_addNode_35 rfl (List.mem_of_getElem? (i := 2) rfl) ?_
    refine uu_iload_n dX4_addNode_36 rfl (List.mem_of_getElem? (i := 3) rfl) ?_
    refine uu_iload_n dX4_addNode_37 rfl (List.mem_of_getElem? (i := 4) rfl) ?_
    obtain ⟨s5, e6, h⟩ := uu_ob h
    refine uu_cv (d1 := 1) (k := j2) (ci := 3) (T := TX3) (N := 15) (As := [.int x1, .int x2, .int x3]) (st := []) (st' := []) (xc_X3_reset uk un g4 e6) g4.is (by decide) rfl kX3_reset lX4_117 sX3_reset (by decide) (Nat.le_of_ble_eq_true rfl) dX4_addNode_38 rfl ?_
    refine uu_aload_n dX4_addNode_41 rfl (List.mem_of_getElem? (i := 1) rfl) ?_
    refine uu_geta (ci := 4) (N := 9) fX4_18 (by decide) so_6.is (by decide) (c := 13) (by decide) dX4_addNode_42 ?_
    refine uu_iload dX4_addNode_45 (List.mem_of_getElem? (i := 0) rfl) ?_
    obtain ⟨j7, e8, h⟩ := uu_ob h
    refine uu_aald (t := 28) rfl (by decide) e8 dX4_addNode_47 ?_
    obtain ⟨g9, h⟩ := uu_grd h
    refine uu_aload_n dX4_addNode_48 rfl (List.mem_of_getElem? (i := 1) rfl) ?_
    refine uu_geti (ci := 4) (N := 9) fX4_44 (by decide) so_6.is (by decide) (by decide) dX4_addNode_49 ?_
    refine uu_puti (ft := .int) (ci := 3) (N := 15) fX4_121 ptX3 (Or.inl rfl) (by decide) g9.is (by decide) (by decide) (by decide +kernel) rfl rfl dX4_addNode_52 ?_
    refine uu_aload_n dX4_addNode_55 rfl (List.mem_of_getElem? (i := 1) rfl) ?_
    refine uu_geta (ci := 4) (N := 9) fX4_18 (by decide) so_6.is (by decide) (c := 13) (by decide) dX4_addNode_56 ?_
    refine uu_iload dX4_addNode_59 (List.mem_of_getElem? (i := 0) rfl) ?_
    obtain ⟨j10, e11, h⟩ := uu_ob h
    refine uu_aald (t := 28) rfl (by decide) e11 dX4_addNode_61 ?_
    obtain ⟨g12, h⟩ := uu_grd h
    refine uu_aload_n dX4_addNode_62 rfl (List.mem_of_getElem? (i := 1) rfl) ?_
    refine uu_geti (ci := 4) (N := 9) fX4_44 (by decide) so_6.is (by decide) (by decide) dX4_addNode_63 ?_
    refine uu_puti (ft := .int) (ci := 3) (N := 15) fX4_124 ptX3 (Or.inl rfl) (by decide) g12.is (by decide) (by decide) (by decide +kernel) rfl rfl dX4_addNode_66 ?_
    refine uu_iload dX4_addNode_69 (List.mem_of_getElem? (i := 0) rfl) ?_
    have hr := Option.some.inj h
    subst hr
    exact uu_iret rfl dX4_addNode_71
  · replace h := uu_neg c1 h
    refine uu_iconst (v := 0) dX4_addNode_10 (by decide) ?_
    have hr := Option.some.inj h
    subst hr
    exact uu_iret rfl dX4_addNode_11
abbrev mX4_open : hM := (yX4_open, cX4_open, 4, none)
theorem dX4_open_0 : decode cX4_open 0 = .ok (.aload_n 0, 1) := by decide +kernel
theorem dX4_open_1 : decode cX4_open 1 = .ok (.getfield 10, 3) := by decide +kernel
theorem dX4_open_4 : decode cX4_open 4 = .ok (.aload_n 1, 1) := by decide +kernel
theorem dX4_open_5 : decode cX4_open 5 = .ok (.iload_n 2, 1) := by decide +kernel
theorem dX4_open_6 : decode cX4_open 6 = .ok (.iload_n 3, 1) := by decide +kernel
theorem kX2_open : h_ml mX2_open 3 := ⟨h_t4 177 rfl rfl, h_t1 3 rfl rfl, ⟨by decide, by decide, by decide +kernel⟩, by decide⟩
theorem lX4_99 : Cond.methodLink RX4 99 mX2_open.1 ∈ lw_g := h_t4 174 rfl rfl
theorem sX2_open : Cond.instanceMethod mX2_open.1 ∈ lw_g ∧ Cond.selects mX2_open.1.cls mX2_open.1 mX2_open.1 ∈ lw_g := ⟨h_t4 175 rfl rfl, h_t4 176 rfl rfl⟩
theorem dX4_open_7 : decode cX4_open 7 = .ok (.invokevirtual 99, 3) := by decide +kernel
theorem dX4_open_10 : decode cX4_open 10 = .ok (.aload_n 0, 1) := by decide +kernel
theorem dX4_open_11 : decode cX4_open 11 = .ok (.iconst 0, 1) := by decide +kernel
theorem dX4_open_12 : decode cX4_open 12 = .ok (.putfield 44, 3) := by decide +kernel
theorem dX4_open_15 : decode cX4_open 15 = .ok (.aload_n 0, 1) := by decide +kernel
theorem dX4_open_16 : decode cX4_open 16 = .ok (.iconst 0, 1) := by decide +kernel
theorem fX4_100 : h_fl RX4 100 4 6 RX4 TX4 9 := ⟨rfl, by decide, inX4, h_t1 232 rfl rfl⟩
theorem dX4_open_17 : decode cX4_open 17 = .ok (.putfield 100, 3) := by decide +kernel
theorem dX4_open_20 : decode cX4_open 20 = .ok (.aload_n 0, 1) := by decide +kernel
theorem dX4_open_21 : decode cX4_open 21 = .ok (.iconst 0, 1) := by decide +kernel
theorem dX4_open_22 : decode cX4_open 22 = .ok (.putfield 103, 3) := by decide +kernel
theorem dX4_open_25 : decode cX4_open 25 = .ok (.aload_n 0, 1) := by decide +kernel
theorem dX4_open_26 : decode cX4_open 26 = .ok (.iconst 0, 1) := by decide +kernel
theorem dX4_open_27 : decode cX4_open 27 = .ok (.putfield 106, 3) := by decide +kernel
theorem dX4_open_30 : decode cX4_open 30 = .ok (.aload_n 0, 1) := by decide +kernel
theorem dX4_open_31 : decode cX4_open 31 = .ok (.iconst 0, 1) := by decide +kernel
theorem dX4_open_32 : decode cX4_open 32 = .ok (.putfield 41, 3) := by decide +kernel
theorem dX4_open_35 : decode cX4_open 35 = .ok (.aload_n 0, 1) := by decide +kernel
theorem dX4_open_36 : decode cX4_open 36 = .ok (.bipush 25, 2) := by decide +kernel
theorem dX4_open_38 : decode cX4_open 38 = .ok (.iconst 0, 1) := by decide +kernel
theorem dX4_open_39 : decode cX4_open 39 = .ok (.iconst 0, 1) := by decide +kernel
theorem kX4_addNode : h_ml mX4_addNode 3 := ⟨h_t4 182 rfl rfl, h_t1 2 rfl rfl, ⟨by decide, by decide, by decide +kernel⟩, by decide⟩
theorem lX4_109 : Cond.methodLink RX4 109 mX4_addNode.1 ∈ lw_g := h_t4 179 rfl rfl
theorem sX4_addNode : Cond.instanceMethod mX4_addNode.1 ∈ lw_g ∧ Cond.selects mX4_addNode.1.cls mX4_addNode.1 mX4_addNode.1 ∈ lw_g := ⟨h_t4 181 rfl rfl, h_ins 18 rfl⟩
theorem dX4_open_40 : decode cX4_open 40 = .ok (.invokevirtual 109, 3) := by decide +kernel
theorem dX4_open_43 : decode cX4_open 43 = .ok (.pop, 1) := by decide +kernel
theorem dX4_open_44 : decode cX4_open 44 = .ok (.aload_n 0, 1) := by decide +kernel
theorem dX4_open_45 : decode cX4_open 45 = .ok (.iconst 0, 1) := by decide +kernel
theorem dX4_open_46 : decode cX4_open 46 = .ok (.iconst 0, 1) := by decide +kernel
theorem dX4_open_47 : decode cX4_open 47 = .ok (.invokevirtual 113, 3) := by decide +kernel
theorem dX4_open_50 : decode cX4_open 50 = .ok (.return_, 1) := by decide +kernel
def fn_X4_open (k1 : Nat) (x2 : Int32) (x3 : Int32) (s : uS) : Option uS := (fn_X2_open k1 x2 x3 s).bind fun s1 => (fn_X4_addNode 25 0 0 (wI (wI (wI (wI (wI s1 6 2 0) 6 6 0) 6 7 0) 6 8 0) 6 5 0)).bind fun r3 => (fn_X4_push 0 0 r3.1).bind fun s5 => some s5
set_option maxRecDepth 100000 in
set_option maxHeartbeats 4000000 in
theorem xc_X4_open {l : Launch} {D : va_G} {A : Nat → ClassId} {B : Nat} {Z : State → Heap → Prop} {vF : Value} (uk : uK B Z vF) (un : uX A B Z) {k1 : Nat} {x2 : Int32} {x3 : Int32} {s : uS} {r : uS}  (h : fn_X4_open k1 x2 x3 s = some r) : CU l D A B Z 3 mX4_open s [.ref (B + 6), .ref (B + k1), .int x2, .int x3] (r, none) := by
  unfold fn_X4_open at h
  refine cu_of rfl uk.1.1 (Nat.le_of_ble_eq_true rfl) ?_
  show GU _ _ _ _ _ _ _ _ _ 0 [(0, .ref (B + 6)), (1, .ref (B + k1)), (2, .int x2), (3, .int x3)] []
  refine uu_aload_n dX4_open_0 rfl (List.mem_of_getElem? (i := 0) rfl) ?_
  refine uu_geta (ci := 4) (N := 9) fX4_10 (by decide) so_6.is (by decide) (c := 7) (by decide) dX4_open_1 ?_
  refine uu_aload_n dX4_open_4 rfl (List.mem_of_getElem? (i := 1) rfl) ?_
  refine uu_iload_n dX4_open_5 rfl (List.mem_of_getElem? (i := 2) rfl) ?_
  refine uu_iload_n dX4_open_6 rfl (List.mem_of_getElem? (i := 3) rfl) ?_
  obtain ⟨s1, e2, h⟩ := uu_ob h
  refine uu_cv (d1 := 1) (k := 7) (ci := 2) (T := TX2) (N := 9) (As := [.ref (B + k1), .int x2, .int x3]) (st := []) (st' := []) (xc_X2_open uk  e2) so_7.is (by decide) rfl kX2_open lX4_99 sX2_open (by decide) (Nat.le_of_ble_eq_true rfl) dX4_open_7 rfl ?_
  refine uu_aload_n dX4_open_10 rfl (List.mem_of_getElem? (i := 0) rfl) ?_
  refine uu_iconst (v := 0) dX4_open_11 (by decide) ?_
  refine uu_puti (ft := .int) (ci := 4) (N := 9) fX4_44 ptX4 (Or.inl rfl) (by decide) so_6.is (by decide) (by decide) (by decide +kernel) rfl rfl dX4_open_12 ?_
  refine uu_aload_n dX4_open_15 rfl (List.mem_of_getElem? (i := 0) rfl) ?_
  refine uu_iconst (v := 0) dX4_open_16 (by decide) ?_
  refine uu_puti (ft := .int) (ci := 4) (N := 9) fX4_100 ptX4 (Or.inl rfl) (by decide) so_6.is (by decide) (by decide) (by decide +kernel) rfl rfl dX4_open_17 ?_
  refine uu_aload_n dX4_open_20 rfl (List.mem_of_getElem? (i := 0) rfl) ?_
  refine uu_iconst (v := 0) dX4_open_21 (by decide) ?_
  refine uu_puti (ft := .int) (ci := 4) (N := 9) fX4_103 ptX4 (Or.inl rfl) (by decide) so_6.is (by decide) (by decide) (by decide +kernel) rfl rfl dX4_open_22 ?_
  refine uu_aload_n dX4_open_25 rfl (List.mem_of_getElem? (i := 0) rfl) ?_
  refine uu_iconst (v := 0) dX4_open_26 (by decide) ?_
  refine uu_puti (ft := .int) (ci := 4) (N := 9) fX4_106 ptX4 (Or.inl rfl) (by decide) so_6.is (by decide) (by decide) (by decide +kernel) rfl rfl dX4_open_27 ?_
  refine uu_aload_n dX4_open_30 rfl (List.mem_of_getElem? (i := 0) rfl) ?_
  refine uu_iconst (v := 0) dX4_open_31 (by decide) ?_
  refine uu_puti (ft := .int) (ci := 4) (N := 9) fX4_41 ptX4 (Or.inl rfl) (by decide) so_6.is (by decide) (by decide) (by decide +kernel) rfl rfl dX4_open_32 ?_
  refine uu_aload_n dX4_open_35 rfl (List.mem_of_getElem? (i := 0) rfl) ?_
  refine uu_bipush (v := 25) dX4_open_36 (by decide) ?_
  refine uu_iconst (v := 0) dX4_open_38 (by decide) ?_
  refine uu_iconst (v := 0) dX4_open_39 (by decide) ?_
  obtain ⟨r3, e4, h⟩ := uu_ob h
  refine uu_cv (d1 := 2) (k := 6) (ci := 4) (T := TX4) (N := 9) (As := [.int 25, .int 0, .int 0]) (st := []) (st' := [.int r3.2]) (xc_X4_addNode uk un  e4) so_6.is (by decide) rfl kX4_addNode lX4_109 sX4_addNode (by decide) (Nat.le_of_ble_eq_true rfl) dX4_open_40 rfl ?_
  refine uu_pop dX4_open_43 rfl ?_
  refine uu_aload_n dX4_open_44 rfl (List.mem_of_getElem? (i := 0) rfl) ?_
  refine uu_iconst (v := 0) dX4_open_45 (by decide) ?_
  refine uu_iconst (v := 0) dX4_open_46 (by decide) ?_
  obtain ⟨s5, e6, h⟩ := uu_ob h
  refine uu_cv (d1 := 0) (k := 6) (ci := 4) (T := TX4) (N := 9) (As := [.int 0, .int 0]) (st := []) (st' := []) (xc_X4_push uk  e6) so_6.is (by decide) rfl kX4_push lX4_113 sX4_push (by decide) (Nat.le_of_ble_eq_true rfl) dX4_open_47 rfl ?_
  have hr := Option.some.inj h
  subst hr
  exact uu_vret rfl dX4_open_50
abbrev mX4_startCommand : hM := (yX4_startCommand, cX4_startCommand, 3, (some (.int)))
theorem dX4_startCommand_188 : decode cX4_startCommand 188 = .ok (.getstatic 146, 3) := by decide +kernel
theorem dX4_startCommand_191 : decode cX4_startCommand 191 = .ok (.iload_n 1, 1) := by decide +kernel
theorem dX4_startCommand_192 : decode cX4_startCommand 192 = .ok (.iaload, 1) := by decide +kernel
theorem dX4_startCommand_193 : decode cX4_startCommand 193 = .ok (.ifCond .eq 10, 3) := by decide +kernel
theorem dX4_startCommand_203 : decode cX4_startCommand 203 = .ok (.iconst 1, 1) := by decide +kernel
theorem dX4_startCommand_204 : decode cX4_startCommand 204 = .ok (.ireturn, 1) := by decide +kernel
theorem dX4_startCommand_196 : decode cX4_startCommand 196 = .ok (.aload_n 0, 1) := by decide +kernel
theorem dX4_startCommand_197 : decode cX4_startCommand 197 = .ok (.bipush 8, 2) := by decide +kernel
theorem dX4_startCommand_199 : decode cX4_startCommand 199 = .ok (.iload_n 2, 1) := by decide +kernel
theorem dX4_startCommand_200 : decode cX4_startCommand 200 = .ok (.invokevirtual 113, 3) := by decide +kernel
theorem dX4_startCommand_23 : decode cX4_startCommand 23 = .ok (.istore_n 1, 1) := by decide +kernel
theorem dX4_startCommand_24 : decode cX4_startCommand 24 = .ok (.iload_n 1, 1) := by decide +kernel
theorem dX4_startCommand_25 : decode cX4_startCommand 25 = .ok (.ifCond .lt 24, 3) := by decide +kernel
theorem dX4_startCommand_49 : decode cX4_startCommand 49 = .ok (.iconst 0, 1) := by decide +kernel
theorem dX4_startCommand_50 : decode cX4_startCommand 50 = .ok (.ireturn, 1) := by decide +kernel
theorem dX4_startCommand_28 : decode cX4_startCommand 28 = .ok (.aload_n 0, 1) := by decide +kernel
theorem dX4_startCommand_29 : decode cX4_startCommand 29 = .ok (.getfield 100, 3) := by decide +kernel
theorem dX4_startCommand_32 : decode cX4_startCommand 32 = .ok (.bipush 100, 2) := by decide +kernel
theorem dX4_startCommand_34 : decode cX4_startCommand 34 = .ok (.if_icmp .eq 15, 3) := by decide +kernel
theorem dX4_startCommand_37 : decode cX4_startCommand 37 = .ok (.aload_n 0, 1) := by decide +kernel
theorem gsX4_140 : Cond.fieldLink RX4 140 "SortedMail$Parser" "NEEDED_BY_KINDS" "[I" ∈ lw_g := h_t5 37 rfl rfl
theorem dX4_startCommand_38 : decode cX4_startCommand 38 = .ok (.getstatic 140, 3) := by decide +kernel
theorem dX4_startCommand_41 : decode cX4_startCommand 41 = .ok (.iload_n 1, 1) := by decide +kernel
theorem dX4_startCommand_42 : decode cX4_startCommand 42 = .ok (.iaload, 1) := by decide +kernel
theorem dX4_startCommand_43 : decode cX4_startCommand 43 = .ok (.invokevirtual 143, 3) := by decide +kernel
theorem dX4_startCommand_46 : decode cX4_startCommand 46 = .ok (.ifCond .eq 5, 3) := by decide +kernel
theorem dX4_startCommand_51 : decode cX4_startCommand 51 = .ok (.aload_n 0, 1) := by decide +kernel
theorem dX4_startCommand_52 : decode cX4_startCommand 52 = .ok (.dup, 1) := by decide +kernel
theorem dX4_startCommand_53 : decode cX4_startCommand 53 = .ok (.getfield 100, 3) := by decide +kernel
theorem dX4_startCommand_56 : decode cX4_startCommand 56 = .ok (.iconst 1, 1) := by decide +kernel
theorem dX4_startCommand_57 : decode cX4_startCommand 57 = .ok (.iadd, 1) := by decide +kernel
theorem dX4_startCommand_58 : decode cX4_startCommand 58 = .ok (.putfield 100, 3) := by decide +kernel
theorem dX4_startCommand_61 : decode cX4_startCommand 61 = .ok (.aload_n 0, 1) := by decide +kernel
theorem dX4_startCommand_62 : decode cX4_startCommand 62 = .ok (.iload_n 1, 1) := by decide +kernel
theorem dX4_startCommand_63 : decode cX4_startCommand 63 = .ok (.iconst 0, 1) := by decide +kernel
theorem dX4_startCommand_64 : decode cX4_startCommand 64 = .ok (.iconst 0, 1) := by decide +kernel
theorem dX4_startCommand_65 : decode cX4_startCommand 65 = .ok (.invokevirtual 109, 3) := by decide +kernel
theorem dX4_startCommand_68 : decode cX4_startCommand 68 = .ok (.istore_n 2, 1) := by decide +kernel
theorem dX4_startCommand_69 : decode cX4_startCommand 69 = .ok (.iload_n 1, 1) := by decide +kernel
theorem dX4_startCommand_70 : decode cX4_startCommand 70 = .ok (.ifCond .ne 23, 3) := by decide +kernel
theorem dX4_startCommand_93 : decode cX4_startCommand 93 = .ok (.aload_n 0, 1) := by decide +kernel
theorem dX4_startCommand_94 : decode cX4_startCommand 94 = .ok (.bipush 13, 2) := by decide +kernel
theorem dX4_startCommand_96 : decode cX4_startCommand 96 = .ok (.bipush 59, 2) := by decide +kernel
theorem dX4_startCommand_98 : decode cX4_startCommand 98 = .ok (.invokevirtual 113, 3) := by decide +kernel
theorem dX4_startCommand_101 : decode cX4_startCommand 101 = .ok (.iload_n 1, 1) := by decide +kernel
theorem dX4_startCommand_102 : decode cX4_startCommand 102 = .ok (.tableswitch 86 4 10 #[42, 53, 64, 75, 75, 75, 64], 42) := by decide +kernel
theorem dX4_startCommand_144 : decode cX4_startCommand 144 = .ok (.aload_n 0, 1) := by decide +kernel
theorem dX4_startCommand_145 : decode cX4_startCommand 145 = .ok (.bipush 10, 2) := by decide +kernel
theorem dX4_startCommand_147 : decode cX4_startCommand 147 = .ok (.iload_n 2, 1) := by decide +kernel
theorem dX4_startCommand_148 : decode cX4_startCommand 148 = .ok (.iconst 3, 1) := by decide +kernel
theorem dX4_startCommand_149 : decode cX4_startCommand 149 = .ok (.invokevirtual 135, 3) := by decide +kernel
theorem dX4_startCommand_152 : decode cX4_startCommand 152 = .ok (.goto 36, 3) := by decide +kernel
theorem dX4_startCommand_155 : decode cX4_startCommand 155 = .ok (.aload_n 0, 1) := by decide +kernel
theorem dX4_startCommand_156 : decode cX4_startCommand 156 = .ok (.bipush 10, 2) := by decide +kernel
theorem dX4_startCommand_158 : decode cX4_startCommand 158 = .ok (.iload_n 2, 1) := by decide +kernel
theorem dX4_startCommand_159 : decode cX4_startCommand 159 = .ok (.iconst 4, 1) := by decide +kernel
theorem dX4_startCommand_160 : decode cX4_startCommand 160 = .ok (.invokevirtual 135, 3) := by decide +kernel
theorem dX4_startCommand_163 : decode cX4_startCommand 163 = .ok (.goto 25, 3) := by decide +kernel
theorem dX4_startCommand_166 : decode cX4_startCommand 166 = .ok (.aload_n 0, 1) := by decide +kernel
theorem dX4_startCommand_167 : decode cX4_startCommand 167 = .ok (.bipush 10, 2) := by decide +kernel
theorem dX4_startCommand_169 : decode cX4_startCommand 169 = .ok (.iload_n 2, 1) := by decide +kernel
theorem dX4_startCommand_170 : decode cX4_startCommand 170 = .ok (.iconst 5, 1) := by decide +kernel
theorem dX4_startCommand_171 : decode cX4_startCommand 171 = .ok (.invokevirtual 135, 3) := by decide +kernel
theorem dX4_startCommand_174 : decode cX4_startCommand 174 = .ok (.goto 14, 3) := by decide +kernel
theorem dX4_startCommand_177 : decode cX4_startCommand 177 = .ok (.aload_n 0, 1) := by decide +kernel
theorem dX4_startCommand_178 : decode cX4_startCommand 178 = .ok (.bipush 11, 2) := by decide +kernel
theorem dX4_startCommand_180 : decode cX4_startCommand 180 = .ok (.iload_n 2, 1) := by decide +kernel
theorem dX4_startCommand_181 : decode cX4_startCommand 181 = .ok (.iconst 2, 1) := by decide +kernel
theorem dX4_startCommand_182 : decode cX4_startCommand 182 = .ok (.invokevirtual 135, 3) := by decide +kernel
theorem dX4_startCommand_185 : decode cX4_startCommand 185 = .ok (.goto 3, 3) := by decide +kernel
theorem dX4_startCommand_73 : decode cX4_startCommand 73 = .ok (.aload_n 0, 1) := by decide +kernel
theorem dX4_startCommand_74 : decode cX4_startCommand 74 = .ok (.iconst 4, 1) := by decide +kernel
theorem dX4_startCommand_75 : decode cX4_startCommand 75 = .ok (.iconst 0, 1) := by decide +kernel
theorem dX4_startCommand_76 : decode cX4_startCommand 76 = .ok (.invokevirtual 113, 3) := by decide +kernel
theorem dX4_startCommand_79 : decode cX4_startCommand 79 = .ok (.aload_n 0, 1) := by decide +kernel
theorem dX4_startCommand_80 : decode cX4_startCommand 80 = .ok (.iconst 2, 1) := by decide +kernel
theorem dX4_startCommand_81 : decode cX4_startCommand 81 = .ok (.iload_n 2, 1) := by decide +kernel
theorem dX4_startCommand_82 : decode cX4_startCommand 82 = .ok (.invokevirtual 113, 3) := by decide +kernel
theorem dX4_startCommand_85 : decode cX4_startCommand 85 = .ok (.aload_n 0, 1) := by decide +kernel
theorem dX4_startCommand_86 : decode cX4_startCommand 86 = .ok (.iconst 5, 1) := by decide +kernel
theorem dX4_startCommand_87 : decode cX4_startCommand 87 = .ok (.iload_n 2, 1) := by decide +kernel
theorem dX4_startCommand_88 : decode cX4_startCommand 88 = .ok (.invokevirtual 113, 3) := by decide +kernel
theorem dX4_startCommand_91 : decode cX4_startCommand 91 = .ok (.iconst 1, 1) := by decide +kernel
theorem dX4_startCommand_92 : decode cX4_startCommand 92 = .ok (.ireturn, 1) := by decide +kernel
theorem dX4_startCommand_0 : decode cX4_startCommand 0 = .ok (.aload_n 0, 1) := by decide +kernel
theorem dX4_startCommand_1 : decode cX4_startCommand 1 = .ok (.getfield 10, 3) := by decide +kernel
theorem dX4_startCommand_4 : decode cX4_startCommand 4 = .ok (.getfield 37, 3) := by decide +kernel
theorem dX4_startCommand_7 : decode cX4_startCommand 7 = .ok (.ifCond .ne 15, 3) := by decide +kernel
theorem dX4_startCommand_22 : decode cX4_startCommand 22 = .ok (.iconst (-1), 1) := by decide +kernel
theorem dX4_startCommand_10 : decode cX4_startCommand 10 = .ok (.aload_n 0, 1) := by decide +kernel
theorem dX4_startCommand_11 : decode cX4_startCommand 11 = .ok (.getfield 10, 3) := by decide +kernel
theorem dX4_startCommand_14 : decode cX4_startCommand 14 = .ok (.ldc 138, 2) := by decide +kernel
theorem dX4_startCommand_16 : decode cX4_startCommand 16 = .ok (.invokevirtual 128, 3) := by decide +kernel
theorem dX4_startCommand_19 : decode cX4_startCommand 19 = .ok (.goto 4, 3) := by decide +kernel
def fb_X4_startCommand_188  (x1 : Int32) (x2 : Int32) (s : uS) : Option (uS × Int32) := (tget kS_2 x1).bind fun v2 => if v2 = 0 then (some (s, (1 : Int32))) else ((fn_X4_push 8 x2 s).bind fun s5 => some (s5, (1 : Int32)))
set_option maxRecDepth 100000 in
set_option maxHeartbeats 4000000 in
theorem xb_X4_startCommand_188 {l : Launch} {D : va_G} {A : Nat → ClassId} {B : Nat} {Z : State → Heap → Prop} {vF : Value} (uk : uK B Z vF) (un : uX A B Z)   {x1 : Int32} {x2 : Int32} {s : uS} {r : (uS × Int32)}  (h : fb_X4_startCommand_188  x1 x2 s = some r) : GU l D A B Z mX4_startCommand 6 (r.1, some (.int r.2)) s 188 [(0, .ref (B + 6)), (1, .int x1), (2, .int x2)] [] := by
  unfold fb_X4_startCommand_188 at h
  obtain ⟨cq1, hz1, ht1⟩ := uk.2.2 2 _ rfl
  refine uu_gets hz1 gsX4_146 dX4_startCommand_188 ?_
  refine uu_iload_n dX4_startCommand_191 rfl (List.mem_of_getElem? (i := 1) rfl) ?_
  obtain ⟨v2, e3, h⟩ := uu_ob h
  refine uu_ti (xs := kS_2) ht1 e3 dX4_startCommand_192 ?_
  refine uu_if_eq (tgt := 203) dX4_startCommand_193 (by decide) (fun c4 => ?_) (fun c4 => ?_)
  · replace h := uu_pos c4 h
    refine uu_iconst (v := 1) dX4_startCommand_203 (by decide) ?_
    have hr := Option.some.inj h
    subst hr
    exact uu_iret rfl dX4_startCommand_204
  · replace h := uu_neg c4 h
    refine uu_aload_n dX4_startCommand_196 rfl (List.mem_of_getElem? (i := 0) rfl) ?_
    refine uu_bipush (v := 8) dX4_startCommand_197 (by decide) ?_
    refine uu_iload_n dX4_startCommand_199 rfl (List.mem_of_getElem? (i := 2) rfl) ?_
    obtain ⟨s5, e6, h⟩ := uu_ob h
    refine uu_cv (d1 := 0) (k := 6) (ci := 4) (T := TX4) (N := 9) (As := [.int 8, .int x2]) (st := []) (st' := []) (xc_X4_push uk  e6) so_6.is (by decide) rfl kX4_push lX4_113 sX4_push (by decide) (Nat.le_of_ble_eq_true rfl) dX4_startCommand_200 rfl ?_
    refine uu_iconst (v := 1) dX4_startCommand_203 (by decide) ?_
    have hr := Option.some.inj h
    subst hr
    exact uu_iret rfl dX4_startCommand_204
def fb_X4_startCommand_23  (xs0 : Int32) (s : uS) : Option (uS × Int32) := if xs0 < 0 then (some (s, (0 : Int32))) else (if (s.I 6 6) = 100 then (some (s, (0 : Int32))) else ((tget kS_0 xs0).bind fun v4 => (fn_X4_isLacking v4 s).bind fun v6 => if v6 = true then (some (s, (0 : Int32))) else ((fn_X4_addNode xs0 0 0 (wI s 6 6 ((s.I 6 6) + 1))).bind fun r9 => if xs0 = 0 then ((fn_X4_push 4 0 r9.1).bind fun s28 => (fn_X4_push 2 r9.2 s28).bind fun s30 => (fn_X4_push 5 r9.2 s30).bind fun s32 => some (s32, (1 : Int32))) else ((fn_X4_push 13 59 r9.1).bind fun s12 => if xs0 = 4 then ((fn_X4_pushList 10 r9.2 3 s12).bind fun s14 => fb_X4_startCommand_188 xs0 r9.2 s14) else (if xs0 = 5 then ((fn_X4_pushList 10 r9.2 4 s12).bind fun s16 => fb_X4_startCommand_188 xs0 r9.2 s16) else (if xs0 = 6 then ((fn_X4_pushList 10 r9.2 5 s12).bind fun s18 => fb_X4_startCommand_188 xs0 r9.2 s18) else (if xs0 = 7 then ((fn_X4_pushList 11 r9.2 2 s12).bind fun s20 => fb_X4_startCommand_188 xs0 r9.2 s20) else (if xs0 = 8 then ((fn_X4_pushList 11 r9.2 2 s12).bind fun s22 => fb_X4_startCommand_188 xs0 r9.2 s22) else (if xs0 = 9 then ((fn_X4_pushList 11 r9.2 2 s12).bind fun s24 => fb_X4_startCommand_188 xs0 r9.2 s24) else (if xs0 = 10 then ((fn_X4_pushList 10 r9.2 5 s12).bind fun s26 => fb_X4_startCommand_188 xs0 r9.2 s26) else (fb_X4_startCommand_188 xs0 r9.2 s12)))))))))))
set_option maxRecDepth 100000 in
set_option maxHeartbeats 4000000 in
theorem xb_X4_startCommand_23 {l : Launch} {D : va_G} {A : Nat → ClassId} {B : Nat} {Z : State → Heap → Prop} {vF : Value} (uk : uK B Z vF) (un : uX A B Z)   {xs0 : Int32} {s : uS} {r : (uS × Int32)}  (h : fb_X4_startCommand_23  xs0 s = some r) : GU l D A B Z mX4_startCommand 6 (r.1, some (.int r.2)) s 23 [(0, .ref (B + 6))] [.int xs0] := by
  unfold fb_X4_startCommand_23 at h
  refine uu_istore_n dX4_startCommand_23 rfl (by decide) rfl ?_
  refine uu_iload_n dX4_startCommand_24 rfl (List.mem_of_getElem? (i := 0) rfl) ?_
  refine uu_if_lt (tgt := 49) dX4_startCommand_25 (by decide) (fun c1 => ?_) (fun c1 => ?_)
  · replace h := uu_pos c1 h
    refine uu_iconst (v := 0) dX4_startCommand_49 (by decide) ?_
    have hr := Option.some.inj h
    subst hr
    exact uu_iret rfl dX4_startCommand_50
  · replace h := uu_neg c1 h
    refine uu_aload_n dX4_startCommand_28 rfl (List.mem_of_getElem? (i := 1) rfl) ?_
    refine uu_geti (ci := 4) (N := 9) fX4_100 (by decide) so_6.is (by decide) (by decide) dX4_startCommand_29 ?_
    refine uu_bipush (v := 100) dX4_startCommand_32 (by decide) ?_
    refine uu_icmp_eq (tgt := 49) dX4_startCommand_34 (by decide) (fun c2 => ?_) (fun c2 => ?_)
    · replace h := uu_pos c2 h
      refine uu_iconst (v := 0) dX4_startCommand_49 (by decide) ?_
      have hr := Option.some.inj h
      subst hr
      exact uu_iret rfl dX4_startCommand_50
    · replace h := uu_neg c2 h
      refine uu_aload_n dX4_startCommand_37 rfl (List.mem_of_getElem? (i := 1) rfl) ?_
      obtain ⟨cq3, hz3, ht3⟩ := uk.2.2 0 _ rfl
      refine uu_gets hz3 gsX4_140 dX4_startCommand_38 ?_
      refine uu_iload_n dX4_startCommand_41 rfl (List.mem_of_getElem? (i := 0) rfl) ?_
      obtain ⟨v4, e5, h⟩ := uu_ob h
      refine uu_ti (xs := kS_0) ht3 e5 dX4_startCommand_42 ?_
      obtain ⟨v6, e7, h⟩ := uu_ob h
      refine uu_cv (d1 := 0) (k := 6) (ci := 4) (T := TX4) (N := 9) (As := [.int v4]) (st := []) (st' := [.int (bI v6)]) (xc_X4_isLacking uk  e7) so_6.is (by decide) rfl kX4_isLacking lX4_143 sX4_isLacking (by decide) (Nat.le_of_ble_eq_true rfl) dX4_startCommand_43 rfl ?_
      refine uu_ifb_eq (tgt := 51) dX4_startCommand_46 (by decide) (fun c8 => ?_) (fun c8 => ?_)
      · replace h := uu_neg c8 h
        refine uu_aload_n dX4_startCommand_51 rfl (List.mem_of_getElem? (i := 1) rfl) ?_
        refine uu_dup dX4_startCommand_52 rfl ?_
        refine uu_geti (ci := 4) (N := 9) fX4_100 (by decide) so_6.is (by decide) (by decide) dX4_startCommand_53 ?_
        refine uu_iconst (v := 1) dX4_startCommand_56 (by decide) ?_
        refine uu_iadd dX4_startCommand_57 ?_
        refine uu_puti (ft := .int) (ci := 4) (N := 9) fX4_100 ptX4 (Or.inl rfl) (by decide) so_6.is (by decide) (by decide) (by decide +kernel) rfl rfl dX4_startCommand_58 ?_
        refine uu_aload_n dX4_startCommand_61 rfl (List.mem_of_getElem? (i := 1) rfl) ?_
        refine uu_iload_n dX4_startCommand_62 rfl (List.mem_of_getElem? (i := 0) rfl) ?_
        refine uu_iconst (v := 0) dX4_startCommand_63 (by decide) ?_
        refine uu_iconst (v := 0) dX4_startCommand_64 (by decide) ?_
        obtain ⟨r9, e10, h⟩ := uu_ob h
        refine uu_cv (d1 := 2) (k := 6) (ci := 4) (T := TX4) (N := 9) (As := [.int xs0, .int 0, .int 0]) (st := []) (st' := [.int r9.2]) (xc_X4_addNode uk un  e10) so_6.is (by decide) rfl kX4_addNode lX4_109 sX4_addNode (by decide) (Nat.le_of_ble_eq_true rfl) dX4_startCommand_65 rfl ?_
        refine uu_istore_n dX4_startCommand_68 rfl (by decide) rfl ?_
        refine uu_iload_n dX4_startCommand_69 rfl (List.mem_of_getElem? (i := 1) rfl) ?_
        refine uu_if_ne (tgt := 93) dX4_startCommand_70 (by decide) (fun c11 => ?_) (fun c11 => ?_)
        · replace h := uu_neg c11 h
          refine uu_aload_n dX4_startCommand_93 rfl (List.mem_of_getElem? (i := 2) rfl) ?_
          refine uu_bipush (v := 13) dX4_startCommand_94 (by decide) ?_
          refine uu_bipush (v := 59) dX4_startCommand_96 (by decide) ?_
          obtain ⟨s12, e13, h⟩ := uu_ob h
          refine uu_cv (d1 := 0) (k := 6) (ci := 4) (T := TX4) (N := 9) (As := [.int 13, .int 59]) (st := []) (st' := []) (xc_X4_push uk  e13) so_6.is (by decide) rfl kX4_push lX4_113 sX4_push (by decide) (Nat.le_of_ble_eq_true rfl) dX4_startCommand_98 rfl ?_
          refine uu_iload_n dX4_startCommand_101 rfl (List.mem_of_getElem? (i := 1) rfl) ?_
          by_cases c102_0 : xs0 = 4
          · replace h := uu_pos c102_0 h
            refine uu_tabE (tgt := 144) (off := 42) (v := 4) dX4_startCommand_102 c102_0 (by decide) (by decide) rfl (by decide) ?_
            refine uu_aload_n dX4_startCommand_144 rfl (List.mem_of_getElem? (i := 2) rfl) ?_
            refine uu_bipush (v := 10) dX4_startCommand_145 (by decide) ?_
            refine uu_iload_n dX4_startCommand_147 rfl (List.mem_of_getElem? (i := 0) rfl) ?_
            refine uu_iconst (v := 3) dX4_startCommand_148 (by decide) ?_
            obtain ⟨s14, e15, h⟩ := uu_ob h
            refine uu_cv (d1 := 1) (k := 6) (ci := 4) (T := TX4) (N := 9) (As := [.int 10, .int r9.2, .int 3]) (st := []) (st' := []) (xc_X4_pushList uk  e15) so_6.is (by decide) rfl kX4_pushList lX4_135 sX4_pushList (by decide) (Nat.le_of_ble_eq_true rfl) dX4_startCommand_149 rfl ?_
            refine uu_goto (tgt := 188) dX4_startCommand_152 (by decide) ?_
            refine uu_lv [2, 1, 0] (lv' := [(0, .ref (B + 6)), (1, .int xs0), (2, .int r9.2)]) rfl ?_
            exact xb_X4_startCommand_188 uk un  h
          replace h := uu_neg c102_0 h
          by_cases c102_1 : xs0 = 5
          · replace h := uu_pos c102_1 h
            refine uu_tabE (tgt := 155) (off := 53) (v := 5) dX4_startCommand_102 c102_1 (by decide) (by decide) rfl (by decide) ?_
            refine uu_aload_n dX4_startCommand_155 rfl (List.mem_of_getElem? (i := 2) rfl) ?_
            refine uu_bipush (v := 10) dX4_startCommand_156 (by decide) ?_
            refine uu_iload_n dX4_startCommand_158 rfl (List.mem_of_getElem? (i := 0) rfl) ?_
            refine uu_iconst (v := 4) dX4_startCommand_159 (by decide) ?_
            obtain ⟨s16, e17, h⟩ := uu_ob h
            refine uu_cv (d1 := 1) (k := 6) (ci := 4) (T := TX4) (N := 9) (As := [.int 10, .int r9.2, .int 4]) (st := []) (st' := []) (xc_X4_pushList uk  e17) so_6.is (by decide) rfl kX4_pushList lX4_135 sX4_pushList (by decide) (Nat.le_of_ble_eq_true rfl) dX4_startCommand_160 rfl ?_
            refine uu_goto (tgt := 188) dX4_startCommand_163 (by decide) ?_
            refine uu_lv [2, 1, 0] (lv' := [(0, .ref (B + 6)), (1, .int xs0), (2, .int r9.2)]) rfl ?_
            exact xb_X4_startCommand_188 uk un  h
          replace h := uu_neg c102_1 h
          by_cases c102_2 : xs0 = 6
          · replace h := uu_pos c102_2 h
            refine uu_tabE (tgt := 166) (off := 64) (v := 6) dX4_startCommand_102 c102_2 (by decide) (by decide) rfl (by decide) ?_
            refine uu_aload_n dX4_startCommand_166 rfl (List.mem_of_getElem? (i := 2) rfl) ?_
            refine uu_bipush (v := 10) dX4_startCommand_167 (by decide) ?_
            refine uu_iload_n dX4_startCommand_169 rfl (List.mem_of_getElem? (i := 0) rfl) ?_
            refine uu_iconst (v := 5) dX4_startCommand_170 (by decide) ?_
            obtain ⟨s18, e19, h⟩ := uu_ob h
            refine uu_cv (d1 := 1) (k := 6) (ci := 4) (T := TX4) (N := 9) (As := [.int 10, .int r9.2, .int 5]) (st := []) (st' := []) (xc_X4_pushList uk  e19) so_6.is (by decide) rfl kX4_pushList lX4_135 sX4_pushList (by decide) (Nat.le_of_ble_eq_true rfl) dX4_startCommand_171 rfl ?_
            refine uu_goto (tgt := 188) dX4_startCommand_174 (by decide) ?_
            refine uu_lv [2, 1, 0] (lv' := [(0, .ref (B + 6)), (1, .int xs0), (2, .int r9.2)]) rfl ?_
            exact xb_X4_startCommand_188 uk un  h
          replace h := uu_neg c102_2 h
          by_cases c102_3 : xs0 = 7
          · replace h := uu_pos c102_3 h
            refine uu_tabE (tgt := 177) (off := 75) (v := 7) dX4_startCommand_102 c102_3 (by decide) (by decide) rfl (by decide) ?_
            refine uu_aload_n dX4_startCommand_177 rfl (List.mem_of_getElem? (i := 2) rfl) ?_
            refine uu_bipush (v := 11) dX4_startCommand_178 (by decide) ?_
            refine uu_iload_n dX4_startCommand_180 rfl (List.mem_of_getElem? (i := 0) rfl) ?_
            refine uu_iconst (v := 2) dX4_startCommand_181 (by decide) ?_
            obtain ⟨s20, e21, h⟩ := uu_ob h
            refine uu_cv (d1 := 1) (k := 6) (ci := 4) (T := TX4) (N := 9) (As := [.int 11, .int r9.2, .int 2]) (st := []) (st' := []) (xc_X4_pushList uk  e21) so_6.is (by decide) rfl kX4_pushList lX4_135 sX4_pushList (by decide) (Nat.le_of_ble_eq_true rfl) dX4_startCommand_182 rfl ?_
            refine uu_goto (tgt := 188) dX4_startCommand_185 (by decide) ?_
            refine uu_lv [2, 1, 0] (lv' := [(0, .ref (B + 6)), (1, .int xs0), (2, .int r9.2)]) rfl ?_
            exact xb_X4_startCommand_188 uk un  h
          replace h := uu_neg c102_3 h
          by_cases c102_4 : xs0 = 8
          · replace h := uu_pos c102_4 h
            refine uu_tabE (tgt := 177) (off := 75) (v := 8) dX4_startCommand_102 c102_4 (by decide) (by decide) rfl (by decide) ?_
            refine uu_aload_n dX4_startCommand_177 rfl (List.mem_of_getElem? (i := 2) rfl) ?_
            refine uu_bipush (v := 11) dX4_startCommand_178 (by decide) ?_
            refine uu_iload_n dX4_startCommand_180 rfl (List.mem_of_getElem? (i := 0) rfl) ?_
            refine uu_iconst (v := 2) dX4_startCommand_181 (by decide) ?_
            obtain ⟨s22, e23, h⟩ := uu_ob h
            refine uu_cv (d1 := 1) (k := 6) (ci := 4) (T := TX4) (N := 9) (As := [.int 11, .int r9.2, .int 2]) (st := []) (st' := []) (xc_X4_pushList uk  e23) so_6.is (by decide) rfl kX4_pushList lX4_135 sX4_pushList (by decide) (Nat.le_of_ble_eq_true rfl) dX4_startCommand_182 rfl ?_
            refine uu_goto (tgt := 188) dX4_startCommand_185 (by decide) ?_
            refine uu_lv [2, 1, 0] (lv' := [(0, .ref (B + 6)), (1, .int xs0), (2, .int r9.2)]) rfl ?_
            exact xb_X4_startCommand_188 uk un  h
          replace h := uu_neg c102_4 h
          by_cases c102_5 : xs0 = 9
          · replace h := uu_pos c102_5 h
            refine uu_tabE (tgt := 177) (off := 75) (v := 9) dX4_startCommand_102 c102_5 (by decide) (by decide) rfl (by decide) ?_
            refine uu_aload_n dX4_startCommand_177 rfl (List.mem_of_getElem? (i := 2) rfl) ?_
            refine uu_bipush (v := 11) dX4_startCommand_178 (by decide) ?_
            refine uu_iload_n dX4_startCommand_180 rfl (List.mem_of_getElem? (i := 0) rfl) ?_
            refine uu_iconst (v := 2) dX4_startCommand_181 (by decide) ?_
            obtain ⟨s24, e25, h⟩ := uu_ob h
            refine uu_cv (d1 := 1) (k := 6) (ci := 4) (T := TX4) (N := 9) (As := [.int 11, .int r9.2, .int 2]) (st := []) (st' := []) (xc_X4_pushList uk  e25) so_6.is (by decide) rfl kX4_pushList lX4_135 sX4_pushList (by decide) (Nat.le_of_ble_eq_true rfl) dX4_startCommand_182 rfl ?_
            refine uu_goto (tgt := 188) dX4_startCommand_185 (by decide) ?_
            refine uu_lv [2, 1, 0] (lv' := [(0, .ref (B + 6)), (1, .int xs0), (2, .int r9.2)]) rfl ?_
            exact xb_X4_startCommand_188 uk un  h
          replace h := uu_neg c102_5 h
          by_cases c102_6 : xs0 = 10
          · replace h := uu_pos c102_6 h
            refine uu_tabE (tgt := 166) (off := 64) (v := 10) dX4_startCommand_102 c102_6 (by decide) (by decide) rfl (by decide) ?_
            refine uu_aload_n dX4_startCommand_166 rfl (List.mem_of_getElem? (i := 2) rfl) ?_
            refine uu_bipush (v := 10) dX4_startCommand_167 (by decide) ?_
            refine uu_iload_n dX4_startCommand_169 rfl (List.mem_of_getElem? (i := 0) rfl) ?_
            refine uu_iconst (v := 5) dX4_startCommand_170 (by decide) ?_
            obtain ⟨s26, e27, h⟩ := uu_ob h
            refine uu_cv (d1 := 1) (k := 6) (ci := 4) (T := TX4) (N := 9) (As := [.int 10, .int r9.2, .int 5]) (st := []) (st' := []) (xc_X4_pushList uk  e27) so_6.is (by decide) rfl kX4_pushList lX4_135 sX4_pushList (by decide) (Nat.le_of_ble_eq_true rfl) dX4_startCommand_171 rfl ?_
            refine uu_goto (tgt := 188) dX4_startCommand_174 (by decide) ?_
            refine uu_lv [2, 1, 0] (lv' := [(0, .ref (B + 6)), (1, .int xs0), (2, .int r9.2)]) rfl ?_
            exact xb_X4_startCommand_188 uk un  h
          replace h := uu_neg c102_6 h
          have cx102 : (xs0).toInt < 4 ∨ 10 < (xs0).toInt := by
            refine Decidable.byContradiction fun q => ?_
            rcases (show (xs0).toInt = 4 ∨ (xs0).toInt = 5 ∨ (xs0).toInt = 6 ∨ (xs0).toInt = 7 ∨ (xs0).toInt = 8 ∨ (xs0).toInt = 9 ∨ (xs0).toInt = 10 by omega) with q | q | q | q | q | q | q
            · exact c102_0 (sw_eq q (by decide))
            · exact c102_1 (sw_eq q (by decide))
            · exact c102_2 (sw_eq q (by decide))
            · exact c102_3 (sw_eq q (by decide))
            · exact c102_4 (sw_eq q (by decide))
            · exact c102_5 (sw_eq q (by decide))
            · exact c102_6 (sw_eq q (by decide))
          refine uu_tableOut (tgt := 188) dX4_startCommand_102 cx102 (by decide) ?_
          refine uu_lv [2, 1, 0] (lv' := [(0, .ref (B + 6)), (1, .int xs0), (2, .int r9.2)]) rfl ?_
          exact xb_X4_startCommand_188 uk un  h
        · replace h := uu_pos c11 h
          refine uu_aload_n dX4_startCommand_73 rfl (List.mem_of_getElem? (i := 2) rfl) ?_
          refine uu_iconst (v := 4) dX4_startCommand_74 (by decide) ?_
          refine uu_iconst (v := 0) dX4_startCommand_75 (by decide) ?_
          obtain ⟨s28, e29, h⟩ := uu_ob h
          refine uu_cv (d1 := 0) (k := 6) (ci := 4) (T := TX4) (N := 9) (As := [.int 4, .int 0]) (st := []) (st' := []) (xc_X4_push uk  e29) so_6.is (by decide) rfl kX4_push lX4_113 sX4_push (by decide) (Nat.le_of_ble_eq_true rfl) dX4_startCommand_76 rfl ?_
          refine uu_aload_n dX4_startCommand_79 rfl (List.mem_of_getElem? (i := 2) rfl) ?_
          refine uu_iconst (v := 2) dX4_startCommand_80 (by decide) ?_
          refine uu_iload_n dX4_startCommand_81 rfl (List.mem_of_getElem? (i := 0) rfl) ?_
          obtain ⟨s30, e31, h⟩ := uu_ob h
          refine uu_cv (d1 := 0) (k := 6) (ci := 4) (T := TX4) (N := 9) (As := [.int 2, .int r9.2]) (st := []) (st' := []) (xc_X4_push uk  e31) so_6.is (by decide) rfl kX4_push lX4_113 sX4_push (by decide) (Nat.le_of_ble_eq_true rfl) dX4_startCommand_82 rfl ?_
          refine uu_aload_n dX4_startCommand_85 rfl (List.mem_of_getElem? (i := 2) rfl) ?_
          refine uu_iconst (v := 5) dX4_startCommand_86 (by decide) ?_
          refine uu_iload_n dX4_startCommand_87 rfl (List.mem_of_getElem? (i := 0) rfl) ?_
          obtain ⟨s32, e33, h⟩ := uu_ob h
          refine uu_cv (d1 := 0) (k := 6) (ci := 4) (T := TX4) (N := 9) (As := [.int 5, .int r9.2]) (st := []) (st' := []) (xc_X4_push uk  e33) so_6.is (by decide) rfl kX4_push lX4_113 sX4_push (by decide) (Nat.le_of_ble_eq_true rfl) dX4_startCommand_88 rfl ?_
          refine uu_iconst (v := 1) dX4_startCommand_91 (by decide) ?_
          have hr := Option.some.inj h
          subst hr
          exact uu_iret rfl dX4_startCommand_92
      · replace h := uu_pos c8 h
        refine uu_iconst (v := 0) dX4_startCommand_49 (by decide) ?_
        have hr := Option.some.inj h
        subst hr
        exact uu_iret rfl dX4_startCommand_50
def fn_X4_startCommand  (s : uS) : Option (uS × Int32) := if (s.I 7 2) = 0 then ((fn_X2_placeIn kW_37 s).bind fun v3 => fb_X4_startCommand_23 v3 s) else (fb_X4_startCommand_23 (-1) s)
set_option maxRecDepth 100000 in
set_option maxHeartbeats 4000000 in
theorem xc_X4_startCommand {l : Launch} {D : va_G} {A : Nat → ClassId} {B : Nat} {Z : State → Heap → Prop} {vF : Value} (uk : uK B Z vF) (un : uX A B Z)  {s : uS} {r : (uS × Int32)}  (h : fn_X4_startCommand  s = some r) : CU l D A B Z 6 mX4_startCommand s [.ref (B + 6)] (r.1, some (.int r.2)) := by
  unfold fn_X4_startCommand at h
  refine cu_of rfl uk.1.1 (Nat.le_of_ble_eq_true rfl) ?_
  show GU _ _ _ _ _ _ _ _ _ 0 [(0, .ref (B + 6))] []
  refine uu_aload_n dX4_startCommand_0 rfl (List.mem_of_getElem? (i := 0) rfl) ?_
  refine uu_geta (ci := 4) (N := 9) fX4_10 (by decide) so_6.is (by decide) (c := 7) (by decide) dX4_startCommand_1 ?_
  refine uu_geti (ci := 2) (N := 9) fX4_37 (by decide) so_7.is (by decide) (by decide) dX4_startCommand_4 ?_
  refine uu_if_ne (tgt := 22) dX4_startCommand_7 (by decide) (fun c1 => ?_) (fun c1 => ?_)
  · replace h := uu_neg c1 h
    refine uu_iconst (v := -1) dX4_startCommand_22 (by decide) ?_
    exact xb_X4_startCommand_23 uk un  h
  · replace h := uu_pos c1 h
    refine uu_aload_n dX4_startCommand_10 rfl (List.mem_of_getElem? (i := 0) rfl) ?_
    refine uu_geta (ci := 4) (N := 9) fX4_10 (by decide) so_6.is (by decide) (c := 7) (by decide) dX4_startCommand_11 ?_
    obtain ⟨cq2, cp2, cv2, cw2⟩ := uk.2.1 37 _ rfl
    refine uu_ldcS cv2 dX4_startCommand_14 ?_
    obtain ⟨v3, e4, h⟩ := uu_ob h
    refine uu_cv (d1 := 5) (k := 7) (ci := 2) (T := TX2) (N := 9) (As := [.ref cq2]) (st := []) (st' := [.int v3]) (xc_X2_placeIn uk cw2 e4) so_7.is (by decide) rfl kX2_placeIn lX4_128 sX2_placeIn (by decide) (Nat.le_of_ble_eq_true rfl) dX4_startCommand_16 rfl ?_
    refine uu_goto (tgt := 23) dX4_startCommand_19 (by decide) ?_
    exact xb_X4_startCommand_23 uk un  h
abbrev mX4_closeBlock : hM := (yX4_closeBlock, cX4_closeBlock, 2, (some (.int)))
theorem dX4_closeBlock_0 : decode cX4_closeBlock 0 = .ok (.aload_n 0, 1) := by decide +kernel
theorem dX4_closeBlock_1 : decode cX4_closeBlock 1 = .ok (.dup, 1) := by decide +kernel
theorem dX4_closeBlock_2 : decode cX4_closeBlock 2 = .ok (.getfield 103, 3) := by decide +kernel
theorem dX4_closeBlock_5 : decode cX4_closeBlock 5 = .ok (.iconst 1, 1) := by decide +kernel
theorem dX4_closeBlock_6 : decode cX4_closeBlock 6 = .ok (.isub, 1) := by decide +kernel
theorem dX4_closeBlock_7 : decode cX4_closeBlock 7 = .ok (.putfield 103, 3) := by decide +kernel
theorem dX4_closeBlock_10 : decode cX4_closeBlock 10 = .ok (.aload_n 0, 1) := by decide +kernel
theorem dX4_closeBlock_11 : decode cX4_closeBlock 11 = .ok (.bipush 24, 2) := by decide +kernel
theorem dX4_closeBlock_13 : decode cX4_closeBlock 13 = .ok (.iload_n 1, 1) := by decide +kernel
theorem dX4_closeBlock_14 : decode cX4_closeBlock 14 = .ok (.iconst 0, 1) := by decide +kernel
theorem dX4_closeBlock_15 : decode cX4_closeBlock 15 = .ok (.invokevirtual 109, 3) := by decide +kernel
theorem dX4_closeBlock_18 : decode cX4_closeBlock 18 = .ok (.pop, 1) := by decide +kernel
theorem dX4_closeBlock_19 : decode cX4_closeBlock 19 = .ok (.aload_n 0, 1) := by decide +kernel
theorem dX4_closeBlock_20 : decode cX4_closeBlock 20 = .ok (.getfield 18, 3) := by decide +kernel
theorem dX4_closeBlock_23 : decode cX4_closeBlock 23 = .ok (.iload_n 1, 1) := by decide +kernel
theorem dX4_closeBlock_24 : decode cX4_closeBlock 24 = .ok (.aaload, 1) := by decide +kernel
theorem dX4_closeBlock_25 : decode cX4_closeBlock 25 = .ok (.aload_n 0, 1) := by decide +kernel
theorem dX4_closeBlock_26 : decode cX4_closeBlock 26 = .ok (.getfield 44, 3) := by decide +kernel
theorem dX4_closeBlock_29 : decode cX4_closeBlock 29 = .ok (.putfield 124, 3) := by decide +kernel
theorem dX4_closeBlock_32 : decode cX4_closeBlock 32 = .ok (.aload_n 0, 1) := by decide +kernel
theorem dX4_closeBlock_33 : decode cX4_closeBlock 33 = .ok (.iconst 1, 1) := by decide +kernel
theorem dX4_closeBlock_34 : decode cX4_closeBlock 34 = .ok (.invokevirtual 84, 3) := by decide +kernel
theorem dX4_closeBlock_37 : decode cX4_closeBlock 37 = .ok (.ireturn, 1) := by decide +kernel
def fn_X4_closeBlock (x1 : Int32) (s : uS) : Option (uS × Int32) := (fn_X4_addNode 24 x1 0 (wI s 6 7 ((s.I 6 7) - 1))).bind fun r1 => (pgt 28 r1.1 13 x1).bind fun j3 => if uSo j3 3 then ((fn_X4_pop 1 (wI r1.1 j3 4 (r1.1.I 6 2))).bind fun r6 => some (r6.1, r6.2)) else none
set_option maxRecDepth 100000 in
set_option maxHeartbeats 4000000 in
theorem xc_X4_closeBlock {l : Launch} {D : va_G} {A : Nat → ClassId} {B : Nat} {Z : State → Heap → Prop} {vF : Value} (uk : uK B Z vF) (un : uX A B Z) {x1 : Int32} {s : uS} {r : (uS × Int32)}  (h : fn_X4_closeBlock x1 s = some r) : CU l D A B Z 3 mX4_closeBlock s [.ref (B + 6), .int x1] (r.1, some (.int r.2)) := by
  unfold fn_X4_closeBlock at h
  refine cu_of rfl uk.1.1 (Nat.le_of_ble_eq_true rfl) ?_
  show GU _ _ _ _ _ _ _ _ _ 0 [(0, .ref (B + 6)), (1, .int x1)] []
  refine uu_aload_n dX4_closeBlock_0 rfl (List.mem_of_getElem? (i := 0) rfl) ?_
  refine uu_dup dX4_closeBlock_1 rfl ?_
  refine uu_geti (ci := 4) (N := 9) fX4_103 (by decide) so_6.is (by decide) (by decide) dX4_closeBlock_2 ?_
  refine uu_iconst (v := 1) dX4_closeBlock_5 (by decide) ?_
  refine uu_isub dX4_closeBlock_6 ?_
  refine uu_puti (ft := .int) (ci := 4) (N := 9) fX4_103 ptX4 (Or.inl rfl) (by decide) so_6.is (by decide) (by decide) (by decide +kernel) rfl rfl dX4_closeBlock_7 ?_
  refine uu_aload_n dX4_closeBlock_10 rfl (List.mem_of_getElem? (i := 0) rfl) ?_
  refine uu_bipush (v := 24) dX4_closeBlock_11 (by decide) ?_
  refine uu_iload_n dX4_closeBlock_13 rfl (List.mem_of_getElem? (i := 1) rfl) ?_
  refine uu_iconst (v := 0) dX4_closeBlock_14 (by decide) ?_
  obtain ⟨r1, e2, h⟩ := uu_ob h
  refine uu_cv (d1 := 2) (k := 6) (ci := 4) (T := TX4) (N := 9) (As := [.int 24, .int x1, .int 0]) (st := []) (st' := [.int r1.2]) (xc_X4_addNode uk un  e2) so_6.is (by decide) rfl kX4_addNode lX4_109 sX4_addNode (by decide) (Nat.le_of_ble_eq_true rfl) dX4_closeBlock_15 rfl ?_
  refine uu_pop dX4_closeBlock_18 rfl ?_
  refine uu_aload_n dX4_closeBlock_19 rfl (List.mem_of_getElem? (i := 0) rfl) ?_
  refine uu_geta (ci := 4) (N := 9) fX4_18 (by decide) so_6.is (by decide) (c := 13) (by decide) dX4_closeBlock_20 ?_
  refine uu_iload_n dX4_closeBlock_23 rfl (List.mem_of_getElem? (i := 1) rfl) ?_
  obtain ⟨j3, e4, h⟩ := uu_ob h
  refine uu_aald (t := 28) rfl (by decide) e4 dX4_closeBlock_24 ?_
  obtain ⟨g5, h⟩ := uu_grd h
  refine uu_aload_n dX4_closeBlock_25 rfl (List.mem_of_getElem? (i := 0) rfl) ?_
  refine uu_geti (ci := 4) (N := 9) fX4_44 (by decide) so_6.is (by decide) (by decide) dX4_closeBlock_26 ?_
  refine uu_puti (ft := .int) (ci := 3) (N := 15) fX4_124 ptX3 (Or.inl rfl) (by decide) g5.is (by decide) (by decide) (by decide +kernel) rfl rfl dX4_closeBlock_29 ?_
  refine uu_aload_n dX4_closeBlock_32 rfl (List.mem_of_getElem? (i := 0) rfl) ?_
  refine uu_iconst (v := 1) dX4_closeBlock_33 (by decide) ?_
  obtain ⟨r6, e7, h⟩ := uu_ob h
  refine uu_cv (d1 := 0) (k := 6) (ci := 4) (T := TX4) (N := 9) (As := [.int 1]) (st := []) (st' := [.int r6.2]) (xc_X4_pop uk  e7) so_6.is (by decide) rfl kX4_pop lX4_84 sX4_pop (by decide) (Nat.le_of_ble_eq_true rfl) dX4_closeBlock_34 rfl ?_
  have hr := Option.some.inj h
  subst hr
  exact uu_iret rfl dX4_closeBlock_37
abbrev mX4_startElse : hM := (yX4_startElse, cX4_startElse, 3, (some (.int)))
theorem dX4_startElse_67 : decode cX4_startElse 67 = .ok (.aload_n 0, 1) := by decide +kernel
theorem dX4_startElse_68 : decode cX4_startElse 68 = .ok (.iconst 2, 1) := by decide +kernel
theorem dX4_startElse_69 : decode cX4_startElse 69 = .ok (.iload_n 2, 1) := by decide +kernel
theorem dX4_startElse_70 : decode cX4_startElse 70 = .ok (.invokevirtual 113, 3) := by decide +kernel
theorem dX4_startElse_73 : decode cX4_startElse 73 = .ok (.iload_n 1, 1) := by decide +kernel
theorem dX4_startElse_74 : decode cX4_startElse 74 = .ok (.ifCond .ne 9, 3) := by decide +kernel
theorem dX4_startElse_83 : decode cX4_startElse 83 = .ok (.iconst 1, 1) := by decide +kernel
theorem dX4_startElse_84 : decode cX4_startElse 84 = .ok (.ireturn, 1) := by decide +kernel
theorem dX4_startElse_77 : decode cX4_startElse 77 = .ok (.aload_n 0, 1) := by decide +kernel
theorem dX4_startElse_78 : decode cX4_startElse 78 = .ok (.iconst 5, 1) := by decide +kernel
theorem dX4_startElse_79 : decode cX4_startElse 79 = .ok (.iload_n 2, 1) := by decide +kernel
theorem dX4_startElse_80 : decode cX4_startElse 80 = .ok (.invokevirtual 113, 3) := by decide +kernel
theorem dX4_startElse_46 : decode cX4_startElse 46 = .ok (.iconst 0, 1) := by decide +kernel
theorem dX4_startElse_47 : decode cX4_startElse 47 = .ok (.iconst 0, 1) := by decide +kernel
theorem dX4_startElse_48 : decode cX4_startElse 48 = .ok (.invokevirtual 109, 3) := by decide +kernel
theorem dX4_startElse_51 : decode cX4_startElse 51 = .ok (.istore_n 2, 1) := by decide +kernel
theorem dX4_startElse_52 : decode cX4_startElse 52 = .ok (.iload_n 1, 1) := by decide +kernel
theorem dX4_startElse_53 : decode cX4_startElse 53 = .ok (.iconst 1, 1) := by decide +kernel
theorem dX4_startElse_54 : decode cX4_startElse 54 = .ok (.if_icmp .ne 13, 3) := by decide +kernel
theorem dX4_startElse_57 : decode cX4_startElse 57 = .ok (.aload_n 0, 1) := by decide +kernel
theorem dX4_startElse_58 : decode cX4_startElse 58 = .ok (.dup, 1) := by decide +kernel
theorem dX4_startElse_59 : decode cX4_startElse 59 = .ok (.getfield 41, 3) := by decide +kernel
theorem dX4_startElse_62 : decode cX4_startElse 62 = .ok (.iconst 1, 1) := by decide +kernel
theorem dX4_startElse_63 : decode cX4_startElse 63 = .ok (.isub, 1) := by decide +kernel
theorem dX4_startElse_64 : decode cX4_startElse 64 = .ok (.putfield 41, 3) := by decide +kernel
theorem dX4_startElse_23 : decode cX4_startElse 23 = .ok (.istore_n 1, 1) := by decide +kernel
theorem dX4_startElse_24 : decode cX4_startElse 24 = .ok (.iload_n 1, 1) := by decide +kernel
theorem dX4_startElse_25 : decode cX4_startElse 25 = .ok (.ifCond .ge 9, 3) := by decide +kernel
theorem dX4_startElse_34 : decode cX4_startElse 34 = .ok (.aload_n 0, 1) := by decide +kernel
theorem dX4_startElse_35 : decode cX4_startElse 35 = .ok (.iload_n 1, 1) := by decide +kernel
theorem dX4_startElse_36 : decode cX4_startElse 36 = .ok (.ifCond .ne 8, 3) := by decide +kernel
theorem dX4_startElse_44 : decode cX4_startElse 44 = .ok (.bipush 23, 2) := by decide +kernel
theorem dX4_startElse_39 : decode cX4_startElse 39 = .ok (.bipush 22, 2) := by decide +kernel
theorem dX4_startElse_41 : decode cX4_startElse 41 = .ok (.goto 5, 3) := by decide +kernel
theorem dX4_startElse_28 : decode cX4_startElse 28 = .ok (.aload_n 0, 1) := by decide +kernel
theorem dX4_startElse_29 : decode cX4_startElse 29 = .ok (.iconst 2, 1) := by decide +kernel
theorem dX4_startElse_30 : decode cX4_startElse 30 = .ok (.invokevirtual 84, 3) := by decide +kernel
theorem dX4_startElse_33 : decode cX4_startElse 33 = .ok (.ireturn, 1) := by decide +kernel
theorem dX4_startElse_0 : decode cX4_startElse 0 = .ok (.aload_n 0, 1) := by decide +kernel
theorem dX4_startElse_1 : decode cX4_startElse 1 = .ok (.getfield 10, 3) := by decide +kernel
theorem dX4_startElse_4 : decode cX4_startElse 4 = .ok (.getfield 37, 3) := by decide +kernel
theorem dX4_startElse_7 : decode cX4_startElse 7 = .ok (.ifCond .ne 15, 3) := by decide +kernel
theorem dX4_startElse_22 : decode cX4_startElse 22 = .ok (.iconst (-1), 1) := by decide +kernel
theorem dX4_startElse_10 : decode cX4_startElse 10 = .ok (.aload_n 0, 1) := by decide +kernel
theorem dX4_startElse_11 : decode cX4_startElse 11 = .ok (.getfield 10, 3) := by decide +kernel
theorem dX4_startElse_14 : decode cX4_startElse 14 = .ok (.ldc 149, 2) := by decide +kernel
theorem dX4_startElse_16 : decode cX4_startElse 16 = .ok (.invokevirtual 128, 3) := by decide +kernel
theorem dX4_startElse_19 : decode cX4_startElse 19 = .ok (.goto 4, 3) := by decide +kernel
def fb_X4_startElse_67  (x1 : Int32) (x2 : Int32) (s : uS) : Option (uS × Int32) := (fn_X4_push 2 x2 s).bind fun s1 => if x1 = 0 then ((fn_X4_push 5 x2 s1).bind fun s4 => some (s4, (1 : Int32))) else (some (s1, (1 : Int32)))
set_option maxRecDepth 100000 in
set_option maxHeartbeats 4000000 in
theorem xb_X4_startElse_67 {l : Launch} {D : va_G} {A : Nat → ClassId} {B : Nat} {Z : State → Heap → Prop} {vF : Value} (uk : uK B Z vF) (un : uX A B Z)   {x1 : Int32} {x2 : Int32} {s : uS} {r : (uS × Int32)}  (h : fb_X4_startElse_67  x1 x2 s = some r) : GU l D A B Z mX4_startElse 6 (r.1, some (.int r.2)) s 67 [(0, .ref (B + 6)), (1, .int x1), (2, .int x2)] [] := by
  unfold fb_X4_startElse_67 at h
  refine uu_aload_n dX4_startElse_67 rfl (List.mem_of_getElem? (i := 0) rfl) ?_
  refine uu_iconst (v := 2) dX4_startElse_68 (by decide) ?_
  refine uu_iload_n dX4_startElse_69 rfl (List.mem_of_getElem? (i := 2) rfl) ?_
  obtain ⟨s1, e2, h⟩ := uu_ob h
  refine uu_cv (d1 := 0) (k := 6) (ci := 4) (T := TX4) (N := 9) (As := [.int 2, .int x2]) (st := []) (st' := []) (xc_X4_push uk  e2) so_6.is (by decide) rfl kX4_push lX4_113 sX4_push (by decide) (Nat.le_of_ble_eq_true rfl) dX4_startElse_70 rfl ?_
  refine uu_iload_n dX4_startElse_73 rfl (List.mem_of_getElem? (i := 1) rfl) ?_
  refine uu_if_ne (tgt := 83) dX4_startElse_74 (by decide) (fun c3 => ?_) (fun c3 => ?_)
  · replace h := uu_neg c3 h
    refine uu_iconst (v := 1) dX4_startElse_83 (by decide) ?_
    have hr := Option.some.inj h
    subst hr
    exact uu_iret rfl dX4_startElse_84
  · replace h := uu_pos c3 h
    refine uu_aload_n dX4_startElse_77 rfl (List.mem_of_getElem? (i := 0) rfl) ?_
    refine uu_iconst (v := 5) dX4_startElse_78 (by decide) ?_
    refine uu_iload_n dX4_startElse_79 rfl (List.mem_of_getElem? (i := 2) rfl) ?_
    obtain ⟨s4, e5, h⟩ := uu_ob h
    refine uu_cv (d1 := 0) (k := 6) (ci := 4) (T := TX4) (N := 9) (As := [.int 5, .int x2]) (st := []) (st' := []) (xc_X4_push uk  e5) so_6.is (by decide) rfl kX4_push lX4_113 sX4_push (by decide) (Nat.le_of_ble_eq_true rfl) dX4_startElse_80 rfl ?_
    refine uu_iconst (v := 1) dX4_startElse_83 (by decide) ?_
    have hr := Option.some.inj h
    subst hr
    exact uu_iret rfl dX4_startElse_84
def fb_X4_startElse_46  (x1 : Int32) (xs0 : Int32) (s : uS) : Option (uS × Int32) := (fn_X4_addNode xs0 0 0 s).bind fun r1 => if x1 = 1 then (fb_X4_startElse_67 x1 r1.2 (wI r1.1 6 5 ((r1.1.I 6 5) - 1))) else (fb_X4_startElse_67 x1 r1.2 r1.1)
set_option maxRecDepth 100000 in
set_option maxHeartbeats 4000000 in
theorem xb_X4_startElse_46 {l : Launch} {D : va_G} {A : Nat → ClassId} {B : Nat} {Z : State → Heap → Prop} {vF : Value} (uk : uK B Z vF) (un : uX A B Z)   {x1 : Int32} {xs0 : Int32} {s : uS} {r : (uS × Int32)}  (h : fb_X4_startElse_46  x1 xs0 s = some r) : GU l D A B Z mX4_startElse 6 (r.1, some (.int r.2)) s 46 [(0, .ref (B + 6)), (1, .int x1)] [.int xs0, .ref (B + 6)] := by
  unfold fb_X4_startElse_46 at h
  refine uu_iconst (v := 0) dX4_startElse_46 (by decide) ?_
  refine uu_iconst (v := 0) dX4_startElse_47 (by decide) ?_
  obtain ⟨r1, e2, h⟩ := uu_ob h
  refine uu_cv (d1 := 2) (k := 6) (ci := 4) (T := TX4) (N := 9) (As := [.int xs0, .int 0, .int 0]) (st := []) (st' := [.int r1.2]) (xc_X4_addNode uk un  e2) so_6.is (by decide) rfl kX4_addNode lX4_109 sX4_addNode (by decide) (Nat.le_of_ble_eq_true rfl) dX4_startElse_48 rfl ?_
  refine uu_istore_n dX4_startElse_51 rfl (by decide) rfl ?_
  refine uu_iload_n dX4_startElse_52 rfl (List.mem_of_getElem? (i := 2) rfl) ?_
  refine uu_iconst (v := 1) dX4_startElse_53 (by decide) ?_
  refine uu_icmp_ne (tgt := 67) dX4_startElse_54 (by decide) (fun c3 => ?_) (fun c3 => ?_)
  · replace h := uu_neg c3 h
    refine uu_lv [1, 2, 0] (lv' := [(0, .ref (B + 6)), (1, .int x1), (2, .int r1.2)]) rfl ?_
    exact xb_X4_startElse_67 uk un  h
  · replace h := uu_pos c3 h
    refine uu_aload_n dX4_startElse_57 rfl (List.mem_of_getElem? (i := 1) rfl) ?_
    refine uu_dup dX4_startElse_58 rfl ?_
    refine uu_geti (ci := 4) (N := 9) fX4_41 (by decide) so_6.is (by decide) (by decide) dX4_startElse_59 ?_
    refine uu_iconst (v := 1) dX4_startElse_62 (by decide) ?_
    refine uu_isub dX4_startElse_63 ?_
    refine uu_puti (ft := .int) (ci := 4) (N := 9) fX4_41 ptX4 (Or.inl rfl) (by decide) so_6.is (by decide) (by decide) (by decide +kernel) rfl rfl dX4_startElse_64 ?_
    refine uu_lv [1, 2, 0] (lv' := [(0, .ref (B + 6)), (1, .int x1), (2, .int r1.2)]) rfl ?_
    exact xb_X4_startElse_67 uk un  h
def fb_X4_startElse_23  (xs0 : Int32) (s : uS) : Option (uS × Int32) := if 0 ≤ xs0 then (if xs0 = 0 then (fb_X4_startElse_46 xs0 22 s) else (fb_X4_startElse_46 xs0 23 s)) else ((fn_X4_pop 2 s).bind fun r3 => some (r3.1, r3.2))
set_option maxRecDepth 100000 in
set_option maxHeartbeats 4000000 in
theorem xb_X4_startElse_23 {l : Launch} {D : va_G} {A : Nat → ClassId} {B : Nat} {Z : State → Heap → Prop} {vF : Value} (uk : uK B Z vF) (un : uX A B Z)   {xs0 : Int32} {s : uS} {r : (uS × Int32)}  (h : fb_X4_startElse_23  xs0 s = some r) : GU l D A B Z mX4_startElse 6 (r.1, some (.int r.2)) s 23 [(0, .ref (B + 6))] [.int xs0] := by
  unfold fb_X4_startElse_23 at h
  refine uu_istore_n dX4_startElse_23 rfl (by decide) rfl ?_
  refine uu_iload_n dX4_startElse_24 rfl (List.mem_of_getElem? (i := 0) rfl) ?_
  refine uu_if_ge (tgt := 34) dX4_startElse_25 (by decide) (fun c1 => ?_) (fun c1 => ?_)
  · replace h := uu_pos c1 h
    refine uu_aload_n dX4_startElse_34 rfl (List.mem_of_getElem? (i := 1) rfl) ?_
    refine uu_iload_n dX4_startElse_35 rfl (List.mem_of_getElem? (i := 0) rfl) ?_
    refine uu_if_ne (tgt := 44) dX4_startElse_36 (by decide) (fun c2 => ?_) (fun c2 => ?_)
    · replace h := uu_neg c2 h
      refine uu_bipush (v := 23) dX4_startElse_44 (by decide) ?_
      refine uu_lv [1, 0] (lv' := [(0, .ref (B + 6)), (1, .int xs0)]) rfl ?_
      exact xb_X4_startElse_46 uk un  h
    · replace h := uu_pos c2 h
      refine uu_bipush (v := 22) dX4_startElse_39 (by decide) ?_
      refine uu_goto (tgt := 46) dX4_startElse_41 (by decide) ?_
      refine uu_lv [1, 0] (lv' := [(0, .ref (B + 6)), (1, .int xs0)]) rfl ?_
      exact xb_X4_startElse_46 uk un  h
  · replace h := uu_neg c1 h
    refine uu_aload_n dX4_startElse_28 rfl (List.mem_of_getElem? (i := 1) rfl) ?_
    refine uu_iconst (v := 2) dX4_startElse_29 (by decide) ?_
    obtain ⟨r3, e4, h⟩ := uu_ob h
    refine uu_cv (d1 := 0) (k := 6) (ci := 4) (T := TX4) (N := 9) (As := [.int 2]) (st := []) (st' := [.int r3.2]) (xc_X4_pop uk  e4) so_6.is (by decide) rfl kX4_pop lX4_84 sX4_pop (by decide) (Nat.le_of_ble_eq_true rfl) dX4_startElse_30 rfl ?_
    have hr := Option.some.inj h
    subst hr
    exact uu_iret rfl dX4_startElse_33
def fn_X4_startElse  (s : uS) : Option (uS × Int32) := if (s.I 7 2) = 0 then ((fn_X2_placeIn kW_38 s).bind fun v3 => fb_X4_startElse_23 v3 s) else (fb_X4_startElse_23 (-1) s)
set_option maxRecDepth 100000 in
set_option maxHeartbeats 4000000 in
theorem xc_X4_startElse {l : Launch} {D : va_G} {A : Nat → ClassId} {B : Nat} {Z : State → Heap → Prop} {vF : Value} (uk : uK B Z vF) (un : uX A B Z)  {s : uS} {r : (uS × Int32)}  (h : fn_X4_startElse  s = some r) : CU l D A B Z 6 mX4_startElse s [.ref (B + 6)] (r.1, some (.int r.2)) := by
  unfold fn_X4_startElse at h
  refine cu_of rfl uk.1.1 (Nat.le_of_ble_eq_true rfl) ?_
  show GU _ _ _ _ _ _ _ _ _ 0 [(0, .ref (B + 6))] []
  refine uu_aload_n dX4_startElse_0 rfl (List.mem_of_getElem? (i := 0) rfl) ?_
  refine uu_geta (ci := 4) (N := 9) fX4_10 (by decide) so_6.is (by decide) (c := 7) (by decide) dX4_startElse_1 ?_
  refine uu_geti (ci := 2) (N := 9) fX4_37 (by decide) so_7.is (by decide) (by decide) dX4_startElse_4 ?_
  refine uu_if_ne (tgt := 22) dX4_startElse_7 (by decide) (fun c1 => ?_) (fun c1 => ?_)
  · replace h := uu_neg c1 h
    refine uu_iconst (v := -1) dX4_startElse_22 (by decide) ?_
    exact xb_X4_startElse_23 uk un  h
  · replace h := uu_pos c1 h
    refine uu_aload_n dX4_startElse_10 rfl (List.mem_of_getElem? (i := 0) rfl) ?_
    refine uu_geta (ci := 4) (N := 9) fX4_10 (by decide) so_6.is (by decide) (c := 7) (by decide) dX4_startElse_11 ?_
    obtain ⟨cq2, cp2, cv2, cw2⟩ := uk.2.1 38 _ rfl
    refine uu_ldcS cv2 dX4_startElse_14 ?_
    obtain ⟨v3, e4, h⟩ := uu_ob h
    refine uu_cv (d1 := 5) (k := 7) (ci := 2) (T := TX2) (N := 9) (As := [.ref cq2]) (st := []) (st' := [.int v3]) (xc_X2_placeIn uk cw2 e4) so_7.is (by decide) rfl kX2_placeIn lX4_128 sX2_placeIn (by decide) (Nat.le_of_ble_eq_true rfl) dX4_startElse_16 rfl ?_
    refine uu_goto (tgt := 23) dX4_startElse_19 (by decide) ?_
    exact xb_X4_startElse_23 uk un  h
abbrev mX4_startTest : hM := (yX4_startTest, cX4_startTest, 6, (some (.int)))
theorem dX4_startTest_23 : decode cX4_startTest 23 = .ok (.istore_n 2, 1) := by decide +kernel
theorem dX4_startTest_24 : decode cX4_startTest 24 = .ok (.bipush 11, 2) := by decide +kernel
theorem dX4_startTest_26 : decode cX4_startTest 26 = .ok (.iload_n 2, 1) := by decide +kernel
theorem dX4_startTest_27 : decode cX4_startTest 27 = .ok (.iadd, 1) := by decide +kernel
theorem dX4_startTest_28 : decode cX4_startTest 28 = .ok (.istore_n 3, 1) := by decide +kernel
theorem dX4_startTest_29 : decode cX4_startTest 29 = .ok (.aload_n 0, 1) := by decide +kernel
theorem dX4_startTest_30 : decode cX4_startTest 30 = .ok (.getfield 18, 3) := by decide +kernel
theorem dX4_startTest_33 : decode cX4_startTest 33 = .ok (.iload_n 1, 1) := by decide +kernel
theorem dX4_startTest_34 : decode cX4_startTest 34 = .ok (.aaload, 1) := by decide +kernel
theorem fX4_153 : h_fl RX4 153 3 2 RX3 TX3 15 := ⟨rfl, by decide, inX3, h_t1 158 rfl rfl⟩
theorem dX4_startTest_35 : decode cX4_startTest 35 = .ok (.getfield 153, 3) := by decide +kernel
theorem dX4_startTest_38 : decode cX4_startTest 38 = .ok (.iconst 1, 1) := by decide +kernel
theorem dX4_startTest_39 : decode cX4_startTest 39 = .ok (.iadd, 1) := by decide +kernel
theorem dX4_startTest_40 : decode cX4_startTest 40 = .ok (.istore 4, 2) := by decide +kernel
theorem dX4_startTest_42 : decode cX4_startTest 42 = .ok (.iload_n 2, 1) := by decide +kernel
theorem dX4_startTest_43 : decode cX4_startTest 43 = .ok (.ifCond .lt 31, 3) := by decide +kernel
theorem dX4_startTest_74 : decode cX4_startTest 74 = .ok (.iconst 0, 1) := by decide +kernel
theorem dX4_startTest_75 : decode cX4_startTest 75 = .ok (.ireturn, 1) := by decide +kernel
theorem dX4_startTest_46 : decode cX4_startTest 46 = .ok (.aload_n 0, 1) := by decide +kernel
theorem dX4_startTest_47 : decode cX4_startTest 47 = .ok (.getfield 100, 3) := by decide +kernel
theorem dX4_startTest_50 : decode cX4_startTest 50 = .ok (.bipush 100, 2) := by decide +kernel
theorem dX4_startTest_52 : decode cX4_startTest 52 = .ok (.if_icmp .eq 22, 3) := by decide +kernel
theorem dX4_startTest_55 : decode cX4_startTest 55 = .ok (.iload 4, 2) := by decide +kernel
theorem dX4_startTest_57 : decode cX4_startTest 57 = .ok (.bipush 8, 2) := by decide +kernel
theorem dX4_startTest_59 : decode cX4_startTest 59 = .ok (.if_icmp .gt 15, 3) := by decide +kernel
theorem dX4_startTest_62 : decode cX4_startTest 62 = .ok (.aload_n 0, 1) := by decide +kernel
theorem dX4_startTest_63 : decode cX4_startTest 63 = .ok (.getstatic 140, 3) := by decide +kernel
theorem dX4_startTest_66 : decode cX4_startTest 66 = .ok (.iload_n 3, 1) := by decide +kernel
theorem dX4_startTest_67 : decode cX4_startTest 67 = .ok (.iaload, 1) := by decide +kernel
theorem dX4_startTest_68 : decode cX4_startTest 68 = .ok (.invokevirtual 143, 3) := by decide +kernel
theorem dX4_startTest_71 : decode cX4_startTest 71 = .ok (.ifCond .eq 5, 3) := by decide +kernel
theorem dX4_startTest_76 : decode cX4_startTest 76 = .ok (.aload_n 0, 1) := by decide +kernel
theorem dX4_startTest_77 : decode cX4_startTest 77 = .ok (.dup, 1) := by decide +kernel
theorem dX4_startTest_78 : decode cX4_startTest 78 = .ok (.getfield 100, 3) := by decide +kernel
theorem dX4_startTest_81 : decode cX4_startTest 81 = .ok (.iconst 1, 1) := by decide +kernel
theorem dX4_startTest_82 : decode cX4_startTest 82 = .ok (.iadd, 1) := by decide +kernel
theorem dX4_startTest_83 : decode cX4_startTest 83 = .ok (.putfield 100, 3) := by decide +kernel
theorem dX4_startTest_86 : decode cX4_startTest 86 = .ok (.aload_n 0, 1) := by decide +kernel
theorem dX4_startTest_87 : decode cX4_startTest 87 = .ok (.dup, 1) := by decide +kernel
theorem dX4_startTest_88 : decode cX4_startTest 88 = .ok (.getfield 41, 3) := by decide +kernel
theorem dX4_startTest_91 : decode cX4_startTest 91 = .ok (.iconst 1, 1) := by decide +kernel
theorem dX4_startTest_92 : decode cX4_startTest 92 = .ok (.isub, 1) := by decide +kernel
theorem dX4_startTest_93 : decode cX4_startTest 93 = .ok (.putfield 41, 3) := by decide +kernel
theorem dX4_startTest_96 : decode cX4_startTest 96 = .ok (.aload_n 0, 1) := by decide +kernel
theorem dX4_startTest_97 : decode cX4_startTest 97 = .ok (.iload_n 3, 1) := by decide +kernel
theorem dX4_startTest_98 : decode cX4_startTest 98 = .ok (.iload_n 1, 1) := by decide +kernel
theorem dX4_startTest_99 : decode cX4_startTest 99 = .ok (.iload 4, 2) := by decide +kernel
theorem dX4_startTest_101 : decode cX4_startTest 101 = .ok (.invokevirtual 109, 3) := by decide +kernel
theorem dX4_startTest_104 : decode cX4_startTest 104 = .ok (.istore 5, 2) := by decide +kernel
theorem dX4_startTest_106 : decode cX4_startTest 106 = .ok (.iload_n 3, 1) := by decide +kernel
theorem dX4_startTest_107 : decode cX4_startTest 107 = .ok (.tableswitch 80 17 21 #[51, 51, 33, 77, 77], 33) := by decide +kernel
theorem dX4_startTest_158 : decode cX4_startTest 158 = .ok (.aload_n 0, 1) := by decide +kernel
theorem dX4_startTest_159 : decode cX4_startTest 159 = .ok (.bipush 6, 2) := by decide +kernel
theorem dX4_startTest_161 : decode cX4_startTest 161 = .ok (.iload 5, 2) := by decide +kernel
theorem dX4_startTest_163 : decode cX4_startTest 163 = .ok (.invokevirtual 113, 3) := by decide +kernel
theorem dX4_startTest_166 : decode cX4_startTest 166 = .ok (.aload_n 0, 1) := by decide +kernel
theorem dX4_startTest_167 : decode cX4_startTest 167 = .ok (.iconst 5, 1) := by decide +kernel
theorem dX4_startTest_168 : decode cX4_startTest 168 = .ok (.iload 5, 2) := by decide +kernel
theorem dX4_startTest_170 : decode cX4_startTest 170 = .ok (.invokevirtual 113, 3) := by decide +kernel
theorem dX4_startTest_173 : decode cX4_startTest 173 = .ok (.aload_n 0, 1) := by decide +kernel
theorem dX4_startTest_174 : decode cX4_startTest 174 = .ok (.bipush 13, 2) := by decide +kernel
theorem dX4_startTest_176 : decode cX4_startTest 176 = .ok (.bipush 40, 2) := by decide +kernel
theorem dX4_startTest_178 : decode cX4_startTest 178 = .ok (.invokevirtual 113, 3) := by decide +kernel
theorem dX4_startTest_181 : decode cX4_startTest 181 = .ok (.goto 13, 3) := by decide +kernel
theorem dX4_startTest_194 : decode cX4_startTest 194 = .ok (.iconst 1, 1) := by decide +kernel
theorem dX4_startTest_195 : decode cX4_startTest 195 = .ok (.ireturn, 1) := by decide +kernel
theorem dX4_startTest_140 : decode cX4_startTest 140 = .ok (.aload_n 0, 1) := by decide +kernel
theorem dX4_startTest_141 : decode cX4_startTest 141 = .ok (.bipush 7, 2) := by decide +kernel
theorem dX4_startTest_143 : decode cX4_startTest 143 = .ok (.iload 5, 2) := by decide +kernel
theorem dX4_startTest_145 : decode cX4_startTest 145 = .ok (.invokevirtual 113, 3) := by decide +kernel
theorem dX4_startTest_148 : decode cX4_startTest 148 = .ok (.aload_n 0, 1) := by decide +kernel
theorem dX4_startTest_149 : decode cX4_startTest 149 = .ok (.iconst 5, 1) := by decide +kernel
theorem dX4_startTest_150 : decode cX4_startTest 150 = .ok (.iload 5, 2) := by decide +kernel
theorem dX4_startTest_152 : decode cX4_startTest 152 = .ok (.invokevirtual 113, 3) := by decide +kernel
theorem dX4_startTest_155 : decode cX4_startTest 155 = .ok (.goto 39, 3) := by decide +kernel
theorem dX4_startTest_184 : decode cX4_startTest 184 = .ok (.goto 10, 3) := by decide +kernel
theorem dX4_startTest_187 : decode cX4_startTest 187 = .ok (.aload_n 0, 1) := by decide +kernel
theorem dX4_startTest_188 : decode cX4_startTest 188 = .ok (.iload 5, 2) := by decide +kernel
theorem dX4_startTest_190 : decode cX4_startTest 190 = .ok (.iload_n 3, 1) := by decide +kernel
theorem kX4_pushPartsOfTest : h_ml mX4_pushPartsOfTest 2 := ⟨h_t5 74 rfl rfl, h_t1 2 rfl rfl, ⟨by decide, by decide, by decide +kernel⟩, by decide⟩
theorem lX4_156 : Cond.methodLink RX4 156 mX4_pushPartsOfTest.1 ∈ lw_g := h_t5 71 rfl rfl
theorem sX4_pushPartsOfTest : Cond.instanceMethod mX4_pushPartsOfTest.1 ∈ lw_g ∧ Cond.selects mX4_pushPartsOfTest.1.cls mX4_pushPartsOfTest.1 mX4_pushPartsOfTest.1 ∈ lw_g := ⟨h_t5 73 rfl rfl, h_ins 38 rfl⟩
theorem dX4_startTest_191 : decode cX4_startTest 191 = .ok (.invokevirtual 156, 3) := by decide +kernel
theorem dX4_startTest_0 : decode cX4_startTest 0 = .ok (.aload_n 0, 1) := by decide +kernel
theorem dX4_startTest_1 : decode cX4_startTest 1 = .ok (.getfield 10, 3) := by decide +kernel
theorem dX4_startTest_4 : decode cX4_startTest 4 = .ok (.getfield 37, 3) := by decide +kernel
theorem dX4_startTest_7 : decode cX4_startTest 7 = .ok (.ifCond .ne 15, 3) := by decide +kernel
theorem dX4_startTest_22 : decode cX4_startTest 22 = .ok (.iconst (-1), 1) := by decide +kernel
theorem dX4_startTest_10 : decode cX4_startTest 10 = .ok (.aload_n 0, 1) := by decide +kernel
theorem dX4_startTest_11 : decode cX4_startTest 11 = .ok (.getfield 10, 3) := by decide +kernel
theorem dX4_startTest_14 : decode cX4_startTest 14 = .ok (.ldc 151, 2) := by decide +kernel
theorem dX4_startTest_16 : decode cX4_startTest 16 = .ok (.invokevirtual 128, 3) := by decide +kernel
theorem dX4_startTest_19 : decode cX4_startTest 19 = .ok (.goto 4, 3) := by decide +kernel
def fb_X4_startTest_23  (x1 : Int32) (xs0 : Int32) (s : uS) : Option (uS × Int32) := (pgt 28 s 13 x1).bind fun j1 => if uSo j1 3 then (if xs0 < 0 then (some (s, (0 : Int32))) else (if (s.I 6 6) = 100 then (some (s, (0 : Int32))) else (if (8 : Int32) < ((s.I j1 2) + 1) then (some (s, (0 : Int32))) else ((tget kS_0 ((11 : Int32) + xs0)).bind fun v8 => (fn_X4_isLacking v8 s).bind fun v10 => if v10 = true then (some (s, (0 : Int32))) else ((fn_X4_addNode ((11 : Int32) + xs0) x1 ((s.I j1 2) + 1) (wI (wI s 6 6 ((s.I 6 6) + 1)) 6 5 (((wI s 6 6 ((s.I 6 6) + 1)).I 6 5) - 1))).bind fun r13 => if ((11 : Int32) + xs0) = 17 then ((fn_X4_push 6 r13.2 r13.1).bind fun s15 => (fn_X4_push 5 r13.2 s15).bind fun s17 => (fn_X4_push 13 40 s17).bind fun s19 => some (s19, (1 : Int32))) else (if ((11 : Int32) + xs0) = 18 then ((fn_X4_push 6 r13.2 r13.1).bind fun s21 => (fn_X4_push 5 r13.2 s21).bind fun s23 => (fn_X4_push 13 40 s23).bind fun s25 => some (s25, (1 : Int32))) else (if ((11 : Int32) + xs0) = 19 then ((fn_X4_push 7 r13.2 r13.1).bind fun s27 => (fn_X4_push 5 r13.2 s27).bind fun s29 => some (s29, (1 : Int32))) else (if ((11 : Int32) + xs0) = 20 then (some (r13.1, (1 : Int32))) else (if ((11 : Int32) + xs0) = 21 then (some (r13.1, (1 : Int32))) else ((fn_X4_pushPartsOfTest r13.2 ((11 : Int32) + xs0) r13.1).bind fun s31 => some (s31, (1 : Int32)))))))))))) else none
set_option maxRecDepth 100000 in
set_option maxHeartbeats 4000000 in
theorem xb_X4_startTest_23 {l : Launch} {D : va_G} {A : Nat → ClassId} {B : Nat} {Z : State → Heap → Prop} {vF : Value} (uk : uK B Z vF) (un : uX A B Z)   {x1 : Int32} {xs0 : Int32} {s : uS} {r : (uS × Int32)}  (h : fb_X4_startTest_23  x1 xs0 s = some r) : GU l D A B Z mX4_startTest 6 (r.1, some (.int r.2)) s 23 [(0, .ref (B + 6)), (1, .int x1)] [.int xs0] := by
  unfold fb_X4_startTest_23 at h
  refine uu_istore_n dX4_startTest_23 rfl (by decide) rfl ?_
  refine uu_bipush (v := 11) dX4_startTest_24 (by decide) ?_
  refine uu_iload_n dX4_startTest_26 rfl (List.mem_of_getElem? (i := 0) rfl) ?_
  refine uu_iadd dX4_startTest_27 ?_
  refine uu_istore_n dX4_startTest_28 rfl (by decide) rfl ?_
  refine uu_aload_n dX4_startTest_29 rfl (List.mem_of_getElem? (i := 2) rfl) ?_
  refine uu_geta (ci := 4) (N := 9) fX4_18 (by decide) so_6.is (by decide) (c := 13) (by decide) dX4_startTest_30 ?_
  refine uu_iload_n dX4_startTest_33 rfl (List.mem_of_getElem? (i := 3) rfl) ?_
  obtain ⟨j1, e2, h⟩ := uu_ob h
  refine uu_aald (t := 28) rfl (by decide) e2 dX4_startTest_34 ?_
  obtain ⟨g3, h⟩ := uu_grd h
  refine uu_geti (ci := 3) (N := 15) fX4_153 (by decide) g3.is (by decide) (by decide) dX4_startTest_35 ?_
  refine uu_iconst (v := 1) dX4_startTest_38 (by decide) ?_
  refine uu_iadd dX4_startTest_39 ?_
  refine uu_istore dX4_startTest_40 (by decide) rfl ?_
  refine uu_iload_n dX4_startTest_42 rfl (List.mem_of_getElem? (i := 2) rfl) ?_
  refine uu_if_lt (tgt := 74) dX4_startTest_43 (by decide) (fun c4 => ?_) (fun c4 => ?_)
  · replace h := uu_pos c4 h
    refine uu_iconst (v := 0) dX4_startTest_74 (by decide) ?_
    have hr := Option.some.inj h
    subst hr
    exact uu_iret rfl dX4_startTest_75
  · replace h := uu_neg c4 h
    refine uu_aload_n dX4_startTest_46 rfl (List.mem_of_getElem? (i := 3) rfl) ?_
    refine uu_geti (ci := 4) (N := 9) fX4_100 (by decide) so_6.is (by decide) (by decide) dX4_startTest_47 ?_
    refine uu_bipush (v := 100) dX4_startTest_50 (by decide) ?_
    refine uu_icmp_eq (tgt := 74) dX4_startTest_52 (by decide) (fun c5 => ?_) (fun c5 => ?_)
    · replace h := uu_pos c5 h
      refine uu_iconst (v := 0) dX4_startTest_74 (by decide) ?_
      have hr := Option.some.inj h
      subst hr
      exact uu_iret rfl dX4_startTest_75
    · replace h := uu_neg c5 h
      refine uu_iload dX4_startTest_55 (List.mem_of_getElem? (i := 0) rfl) ?_
      refine uu_bipush (v := 8) dX4_startTest_57 (by decide) ?_
      refine uu_icmp_gt (tgt := 74) dX4_startTest_59 (by decide) (fun c6 => ?_) (fun c6 => ?_)
      · replace h := uu_pos c6 h
        refine uu_iconst (v := 0) dX4_startTest_74 (by decide) ?_
        have hr := Option.some.inj h
        subst hr
        exact uu_iret rfl dX4_startTest_75
      · replace h := uu_neg c6 h
        refine uu_aload_n dX4_startTest_62 rfl (List.mem_of_getElem? (i := 3) rfl) ?_
        obtain ⟨cq7, hz7, ht7⟩ := uk.2.2 0 _ rfl
        refine uu_gets hz7 gsX4_140 dX4_startTest_63 ?_
        refine uu_iload_n dX4_startTest_66 rfl (List.mem_of_getElem? (i := 1) rfl) ?_
        obtain ⟨v8, e9, h⟩ := uu_ob h
        refine uu_ti (xs := kS_0) ht7 e9 dX4_startTest_67 ?_
        obtain ⟨v10, e11, h⟩ := uu_ob h
        refine uu_cv (d1 := 0) (k := 6) (ci := 4) (T := TX4) (N := 9) (As := [.int v8]) (st := []) (st' := [.int (bI v10)]) (xc_X4_isLacking uk  e11) so_6.is (by decide) rfl kX4_isLacking lX4_143 sX4_isLacking (by decide) (Nat.le_of_ble_eq_true rfl) dX4_startTest_68 rfl ?_
        refine uu_ifb_eq (tgt := 76) dX4_startTest_71 (by decide) (fun c12 => ?_) (fun c12 => ?_)
        · replace h := uu_neg c12 h
          refine uu_aload_n dX4_startTest_76 rfl (List.mem_of_getElem? (i := 3) rfl) ?_
          refine uu_dup dX4_startTest_77 rfl ?_
          refine uu_geti (ci := 4) (N := 9) fX4_100 (by decide) so_6.is (by decide) (by decide) dX4_startTest_78 ?_
          refine uu_iconst (v := 1) dX4_startTest_81 (by decide) ?_
          refine uu_iadd dX4_startTest_82 ?_
          refine uu_puti (ft := .int) (ci := 4) (N := 9) fX4_100 ptX4 (Or.inl rfl) (by decide) so_6.is (by decide) (by decide) (by decide +kernel) rfl rfl dX4_startTest_83 ?_
          refine uu_aload_n dX4_startTest_86 rfl (List.mem_of_getElem? (i := 3) rfl) ?_
          refine uu_dup dX4_startTest_87 rfl ?_
          refine uu_geti (ci := 4) (N := 9) fX4_41 (by decide) so_6.is (by decide) (by decide) dX4_startTest_88 ?_
          refine uu_iconst (v := 1) dX4_startTest_91 (by decide) ?_
          refine uu_isub dX4_startTest_92 ?_
          refine uu_puti (ft := .int) (ci := 4) (N := 9) fX4_41 ptX4 (Or.inl rfl) (by decide) so_6.is (by decide) (by decide) (by decide +kernel) rfl rfl dX4_startTest_93 ?_
          refine uu_aload_n dX4_startTest_96 rfl (List.mem_of_getElem? (i := 3) rfl) ?_
          refine uu_iload_n dX4_startTest_97 rfl (List.mem_of_getElem? (i := 1) rfl) ?_
          refine uu_iload_n dX4_startTest_98 rfl (List.mem_of_getElem? (i := 4) rfl) ?_
          refine uu_iload dX4_startTest_99 (List.mem_of_getElem? (i := 0) rfl) ?_
          obtain ⟨r13, e14, h⟩ := uu_ob h
          refine uu_cv (d1 := 2) (k := 6) (ci := 4) (T := TX4) (N := 9) (As := [.int ((11 : Int32) + xs0), .int x1, .int ((s.I j1 2) + 1)]) (st := []) (st' := [.int r13.2]) (xc_X4_addNode uk un  e14) so_6.is (by decide) rfl kX4_addNode lX4_109 sX4_addNode (by decide) (Nat.le_of_ble_eq_true rfl) dX4_startTest_101 rfl ?_
          refine uu_istore dX4_startTest_104 (by decide) rfl ?_
          refine uu_iload_n dX4_startTest_106 rfl (List.mem_of_getElem? (i := 2) rfl) ?_
          by_cases c107_0 : ((11 : Int32) + xs0) = 17
          · replace h := uu_pos c107_0 h
            refine uu_tabE (tgt := 158) (off := 51) (v := 17) dX4_startTest_107 c107_0 (by decide) (by decide) rfl (by decide) ?_
            refine uu_aload_n dX4_startTest_158 rfl (List.mem_of_getElem? (i := 4) rfl) ?_
            refine uu_bipush (v := 6) dX4_startTest_159 (by decide) ?_
            refine uu_iload dX4_startTest_161 (List.mem_of_getElem? (i := 0) rfl) ?_
            obtain ⟨s15, e16, h⟩ := uu_ob h
            refine uu_cv (d1 := 0) (k := 6) (ci := 4) (T := TX4) (N := 9) (As := [.int 6, .int r13.2]) (st := []) (st' := []) (xc_X4_push uk  e16) so_6.is (by decide) rfl kX4_push lX4_113 sX4_push (by decide) (Nat.le_of_ble_eq_true rfl) dX4_startTest_163 rfl ?_
            refine uu_aload_n dX4_startTest_166 rfl (List.mem_of_getElem? (i := 4) rfl) ?_
            refine uu_iconst (v := 5) dX4_startTest_167 (by decide) ?_
            refine uu_iload dX4_startTest_168 (List.mem_of_getElem? (i := 0) rfl) ?_
            obtain ⟨s17, e18, h⟩ := uu_ob h
            refine uu_cv (d1 := 0) (k := 6) (ci := 4) (T := TX4) (N := 9) (As := [.int 5, .int r13.2]) (st := []) (st' := []) (xc_X4_push uk  e18) so_6.is (by decide) rfl kX4_push lX4_113 sX4_push (by decide) (Nat.le_of_ble_eq_true rfl) dX4_startTest_170 rfl ?_
            refine uu_aload_n dX4_startTest_173 rfl (List.mem_of_getElem? (i := 4) rfl) ?_
            refine uu_bipush (v := 13) dX4_startTest_174 (by decide) ?_
            refine uu_bipush (v := 40) dX4_startTest_176 (by decide) ?_
            obtain ⟨s19, e20, h⟩ := uu_ob h
            refine uu_cv (d1 := 0) (k := 6) (ci := 4) (T := TX4) (N := 9) (As := [.int 13, .int 40]) (st := []) (st' := []) (xc_X4_push uk  e20) so_6.is (by decide) rfl kX4_push lX4_113 sX4_push (by decide) (Nat.le_of_ble_eq_true rfl) dX4_startTest_178 rfl ?_
            refine uu_goto (tgt := 194) dX4_startTest_181 (by decide) ?_
            refine uu_iconst (v := 1) dX4_startTest_194 (by decide) ?_
            have hr := Option.some.inj h
            subst hr
            exact uu_iret rfl dX4_startTest_195
          replace h := uu_neg c107_0 h
          by_cases c107_1 : ((11 : Int32) + xs0) = 18
          · replace h := uu_pos c107_1 h
            refine uu_tabE (tgt := 158) (off := 51) (v := 18) dX4_startTest_107 c107_1 (by decide) (by decide) rfl (by decide) ?_
            refine uu_aload_n dX4_startTest_158 rfl (List.mem_of_getElem? (i := 4) rfl) ?_
            refine uu_bipush (v := 6) dX4_startTest_159 (by decide) ?_
            refine uu_iload dX4_startTest_161 (List.mem_of_getElem? (i := 0) rfl) ?_
            obtain ⟨s21, e22, h⟩ := uu_ob h
            refine uu_cv (d1 := 0) (k := 6) (ci := 4) (T := TX4) (N := 9) (As := [.int 6, .int r13.2]) (st := []) (st' := []) (xc_X4_push uk  e22) so_6.is (by decide) rfl kX4_push lX4_113 sX4_push (by decide) (Nat.le_of_ble_eq_true rfl) dX4_startTest_163 rfl ?_
            refine uu_aload_n dX4_startTest_166 rfl (List.mem_of_getElem? (i := 4) rfl) ?_
            refine uu_iconst (v := 5) dX4_startTest_167 (by decide) ?_
            refine uu_iload dX4_startTest_168 (List.mem_of_getElem? (i := 0) rfl) ?_
            obtain ⟨s23, e24, h⟩ := uu_ob h
            refine uu_cv (d1 := 0) (k := 6) (ci := 4) (T := TX4) (N := 9) (As := [.int 5, .int r13.2]) (st := []) (st' := []) (xc_X4_push uk  e24) so_6.is (by decide) rfl kX4_push lX4_113 sX4_push (by decide) (Nat.le_of_ble_eq_true rfl) dX4_startTest_170 rfl ?_
            refine uu_aload_n dX4_startTest_173 rfl (List.mem_of_getElem? (i := 4) rfl) ?_
            refine uu_bipush (v := 13) dX4_startTest_174 (by decide) ?_
            refine uu_bipush (v := 40) dX4_startTest_176 (by decide) ?_
            obtain ⟨s25, e26, h⟩ := uu_ob h
            refine uu_cv (d1 := 0) (k := 6) (ci := 4) (T := TX4) (N := 9) (As := [.int 13, .int 40]) (st := []) (st' := []) (xc_X4_push uk  e26) so_6.is (by decide) rfl kX4_push lX4_113 sX4_push (by decide) (Nat.le_of_ble_eq_true rfl) dX4_startTest_178 rfl ?_
            refine uu_goto (tgt := 194) dX4_startTest_181 (by decide) ?_
            refine uu_iconst (v := 1) dX4_startTest_194 (by decide) ?_
            have hr := Option.some.inj h
            subst hr
            exact uu_iret rfl dX4_startTest_195
          replace h := uu_neg c107_1 h
          by_cases c107_2 : ((11 : Int32) + xs0) = 19
          · replace h := uu_pos c107_2 h
            refine uu_tabE (tgt := 140) (off := 33) (v := 19) dX4_startTest_107 c107_2 (by decide) (by decide) rfl (by decide) ?_
            refine uu_aload_n dX4_startTest_140 rfl (List.mem_of_getElem? (i := 4) rfl) ?_
            refine uu_bipush (v := 7) dX4_startTest_141 (by decide) ?_
            refine uu_iload dX4_startTest_143 (List.mem_of_getElem? (i := 0) rfl) ?_
            obtain ⟨s27, e28, h⟩ := uu_ob h
            refine uu_cv (d1 := 0) (k := 6) (ci := 4) (T := TX4) (N := 9) (As := [.int 7, .int r13.2]) (st := []) (st' := []) (xc_X4_push uk  e28) so_6.is (by decide) rfl kX4_push lX4_113 sX4_push (by decide) (Nat.le_of_ble_eq_true rfl) dX4_startTest_145 rfl ?_
            refine uu_aload_n dX4_startTest_148 rfl (List.mem_of_getElem? (i := 4) rfl) ?_
            refine uu_iconst (v := 5) dX4_startTest_149 (by decide) ?_
            refine uu_iload dX4_startTest_150 (List.mem_of_getElem? (i := 0) rfl) ?_
            obtain ⟨s29, e30, h⟩ := uu_ob h
            refine uu_cv (d1 := 0) (k := 6) (ci := 4) (T := TX4) (N := 9) (As := [.int 5, .int r13.2]) (st := []) (st' := []) (xc_X4_push uk  e30) so_6.is (by decide) rfl kX4_push lX4_113 sX4_push (by decide) (Nat.le_of_ble_eq_true rfl) dX4_startTest_152 rfl ?_
            refine uu_goto (tgt := 194) dX4_startTest_155 (by decide) ?_
            refine uu_iconst (v := 1) dX4_startTest_194 (by decide) ?_
            have hr := Option.some.inj h
            subst hr
            exact uu_iret rfl dX4_startTest_195
          replace h := uu_neg c107_2 h
          by_cases c107_3 : ((11 : Int32) + xs0) = 20
          · replace h := uu_pos c107_3 h
            refine uu_tabE (tgt := 184) (off := 77) (v := 20) dX4_startTest_107 c107_3 (by decide) (by decide) rfl (by decide) ?_
            refine uu_goto (tgt := 194) dX4_startTest_184 (by decide) ?_
            refine uu_iconst (v := 1) dX4_startTest_194 (by decide) ?_
            have hr := Option.some.inj h
            subst hr
            exact uu_iret rfl dX4_startTest_195
          replace h := uu_neg c107_3 h
          by_cases c107_4 : ((11 : Int32) + xs0) = 21
          · replace h := uu_pos c107_4 h
            refine uu_tabE (tgt := 184) (off := 77) (v := 21) dX4_startTest_107 c107_4 (by decide) (by decide) rfl (by decide) ?_
            refine uu_goto (tgt := 194) dX4_startTest_184 (by decide) ?_
            refine uu_iconst (v := 1) dX4_startTest_194 (by decide) ?_
            have hr := Option.some.inj h
            subst hr
            exact uu_iret rfl dX4_startTest_195
          replace h := uu_neg c107_4 h
          have cx107 : ((11 : Int32) + xs0).toInt < 17 ∨ 21 < ((11 : Int32) + xs0).toInt := by
            refine Decidable.byContradiction fun q => ?_
            rcases (show ((11 : Int32) + xs0).toInt = 17 ∨ ((11 : Int32) + xs0).toInt = 18 ∨ ((11 : Int32) + xs0).toInt = 19 ∨ ((11 : Int32) + xs0).toInt = 20 ∨ ((11 : Int32) + xs0).toInt = 21 by omega) with q | q | q | q | q
            · exact c107_0 (sw_eq q (by decide))
            · exact c107_1 (sw_eq q (by decide))
            · exact c107_2 (sw_eq q (by decide))
            · exact c107_3 (sw_eq q (by decide))
            · exact c107_4 (sw_eq q (by decide))
          refine uu_tableOut (tgt := 187) dX4_startTest_107 cx107 (by decide) ?_
          refine uu_aload_n dX4_startTest_187 rfl (List.mem_of_getElem? (i := 4) rfl) ?_
          refine uu_iload dX4_startTest_188 (List.mem_of_getElem? (i := 0) rfl) ?_
          refine uu_iload_n dX4_startTest_190 rfl (List.mem_of_getElem? (i := 2) rfl) ?_
          obtain ⟨s31, e32, h⟩ := uu_ob h
          refine uu_cv (d1 := 2) (k := 6) (ci := 4) (T := TX4) (N := 9) (As := [.int r13.2, .int ((11 : Int32) + xs0)]) (st := []) (st' := []) (xc_X4_pushPartsOfTest uk  e32) so_6.is (by decide) rfl kX4_pushPartsOfTest lX4_156 sX4_pushPartsOfTest (by decide) (Nat.le_of_ble_eq_true rfl) dX4_startTest_191 rfl ?_
          refine uu_iconst (v := 1) dX4_startTest_194 (by decide) ?_
          have hr := Option.some.inj h
          subst hr
          exact uu_iret rfl dX4_startTest_195
        · replace h := uu_pos c12 h
          refine uu_iconst (v := 0) dX4_startTest_74 (by decide) ?_
          have hr := Option.some.inj h
          subst hr
          exact uu_iret rfl dX4_startTest_75
def fn_X4_startTest (x1 : Int32) (s : uS) : Option (uS × Int32) := if (s.I 7 2) = 0 then ((fn_X2_placeIn kW_39 s).bind fun v3 => fb_X4_startTest_23 x1 v3 s) else (fb_X4_startTest_23 x1 (-1) s)
set_option maxRecDepth 100000 in
set_option maxHeartbeats 4000000 in
theorem xc_X4_startTest {l : Launch} {D : va_G} {A : Nat → ClassId} {B : Nat} {Z : State → Heap → Prop} {vF : Value} (uk : uK B Z vF) (un : uX A B Z) {x1 : Int32} {s : uS} {r : (uS × Int32)}  (h : fn_X4_startTest x1 s = some r) : CU l D A B Z 6 mX4_startTest s [.ref (B + 6), .int x1] (r.1, some (.int r.2)) := by
  unfold fn_X4_startTest at h
  refine cu_of rfl uk.1.1 (Nat.le_of_ble_eq_true rfl) ?_
  show GU _ _ _ _ _ _ _ _ _ 0 [(0, .ref (B + 6)), (1, .int x1)] []
  refine uu_aload_n dX4_startTest_0 rfl (List.mem_of_getElem? (i := 0) rfl) ?_
  refine uu_geta (ci := 4) (N := 9) fX4_10 (by decide) so_6.is (by decide) (c := 7) (by decide) dX4_startTest_1 ?_
  refine uu_geti (ci := 2) (N := 9) fX4_37 (by decide) so_7.is (by decide) (by decide) dX4_startTest_4 ?_
  refine uu_if_ne (tgt := 22) dX4_startTest_7 (by decide) (fun c1 => ?_) (fun c1 => ?_)
  · replace h := uu_neg c1 h
    refine uu_iconst (v := -1) dX4_startTest_22 (by decide) ?_
    exact xb_X4_startTest_23 uk un  h
  · replace h := uu_pos c1 h
    refine uu_aload_n dX4_startTest_10 rfl (List.mem_of_getElem? (i := 0) rfl) ?_
    refine uu_geta (ci := 4) (N := 9) fX4_10 (by decide) so_6.is (by decide) (c := 7) (by decide) dX4_startTest_11 ?_
    obtain ⟨cq2, cp2, cv2, cw2⟩ := uk.2.1 39 _ rfl
    refine uu_ldcS cv2 dX4_startTest_14 ?_
    obtain ⟨v3, e4, h⟩ := uu_ob h
    refine uu_cv (d1 := 5) (k := 7) (ci := 2) (T := TX2) (N := 9) (As := [.ref cq2]) (st := []) (st' := [.int v3]) (xc_X2_placeIn uk cw2 e4) so_7.is (by decide) rfl kX2_placeIn lX4_128 sX2_placeIn (by decide) (Nat.le_of_ble_eq_true rfl) dX4_startTest_16 rfl ?_
    refine uu_goto (tgt := 23) dX4_startTest_19 (by decide) ?_
    exact xb_X4_startTest_23 uk un  h
