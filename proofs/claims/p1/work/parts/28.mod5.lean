abbrev mX12_name : hM := (yX12_name, cX12_name, 11, (some (.long)))
theorem dX12_name_0 : decode cX12_name 0 = .ok (.iload_n 1, 1) := by decide +kernel
theorem dX12_name_1 : decode cX12_name 1 = .ok (.iconst 4, 1) := by decide +kernel
theorem dX12_name_2 : decode cX12_name 2 = .ok (.if_icmp .ne 19, 3) := by decide +kernel
theorem dX12_name_5 : decode cX12_name 5 = .ok (.iload_n 2, 1) := by decide +kernel
theorem dX12_name_6 : decode cX12_name 6 = .ok (.ifCond .lt 15, 3) := by decide +kernel
theorem dX12_name_9 : decode cX12_name 9 = .ok (.iload_n 2, 1) := by decide +kernel
theorem dX12_name_10 : decode cX12_name 10 = .ok (.aload_n 0, 1) := by decide +kernel
theorem dX12_name_11 : decode cX12_name 11 = .ok (.getfield 566, 3) := by decide +kernel
theorem dX12_name_14 : decode cX12_name 14 = .ok (.if_icmp .ge 7, 3) := by decide +kernel
theorem dX12_name_17 : decode cX12_name 17 = .ok (.iconst 1, 1) := by decide +kernel
theorem dX12_name_18 : decode cX12_name 18 = .ok (.goto 4, 3) := by decide +kernel
theorem dX12_name_21 : decode cX12_name 21 = .ok (.iconst 0, 1) := by decide +kernel
theorem dX12_name_22 : decode cX12_name 22 = .ok (.istore 4, 2) := by decide +kernel
theorem dX12_name_24 : decode cX12_name 24 = .ok (.iload_n 3, 1) := by decide +kernel
theorem dX12_name_25 : decode cX12_name 25 = .ok (.ifCond .lt 17, 3) := by decide +kernel
theorem dX12_name_28 : decode cX12_name 28 = .ok (.iload 4, 2) := by decide +kernel
theorem dX12_name_30 : decode cX12_name 30 = .ok (.ifCond .ne 16, 3) := by decide +kernel
theorem dX12_name_33 : decode cX12_name 33 = .ok (.aload_n 0, 1) := by decide +kernel
theorem dX12_name_34 : decode cX12_name 34 = .ok (.iload_n 1, 1) := by decide +kernel
theorem dX12_name_35 : decode cX12_name 35 = .ok (.iload_n 2, 1) := by decide +kernel
theorem dX12_name_36 : decode cX12_name 36 = .ok (.invokevirtual 1389, 3) := by decide +kernel
theorem dX12_name_39 : decode cX12_name 39 = .ok (.ifCond .ne 7, 3) := by decide +kernel
theorem dX12_name_42 : decode cX12_name 42 = .ok (.ldc2_w 561, 3) := by decide +kernel
theorem dX12_name_45 : decode cX12_name 45 = .ok (.lreturn, 1) := by decide +kernel
theorem dX12_name_46 : decode cX12_name 46 = .ok (.iload 4, 2) := by decide +kernel
theorem dX12_name_48 : decode cX12_name 48 = .ok (.ifCond .eq 12, 3) := by decide +kernel
theorem dX12_name_51 : decode cX12_name 51 = .ok (.aload_n 0, 1) := by decide +kernel
theorem dX12_name_52 : decode cX12_name 52 = .ok (.getfield 954, 3) := by decide +kernel
theorem dX12_name_55 : decode cX12_name 55 = .ok (.iload_n 2, 1) := by decide +kernel
theorem dX12_name_56 : decode cX12_name 56 = .ok (.iaload, 1) := by decide +kernel
theorem dX12_name_57 : decode cX12_name 57 = .ok (.goto 14, 3) := by decide +kernel
theorem dX12_name_60 : decode cX12_name 60 = .ok (.aload_n 0, 1) := by decide +kernel
theorem dX12_name_61 : decode cX12_name 61 = .ok (.getfield 802, 3) := by decide +kernel
theorem dX12_name_64 : decode cX12_name 64 = .ok (.bipush 6, 2) := by decide +kernel
theorem dX12_name_66 : decode cX12_name 66 = .ok (.iload_n 1, 1) := by decide +kernel
theorem dX12_name_67 : decode cX12_name 67 = .ok (.imul, 1) := by decide +kernel
theorem dX12_name_68 : decode cX12_name 68 = .ok (.iload_n 2, 1) := by decide +kernel
theorem dX12_name_69 : decode cX12_name 69 = .ok (.iadd, 1) := by decide +kernel
theorem dX12_name_70 : decode cX12_name 70 = .ok (.iaload, 1) := by decide +kernel
theorem dX12_name_71 : decode cX12_name 71 = .ok (.istore 5, 2) := by decide +kernel
theorem dX12_name_73 : decode cX12_name 73 = .ok (.lconst 0, 1) := by decide +kernel
theorem dX12_name_74 : decode cX12_name 74 = .ok (.lstore 6, 2) := by decide +kernel
theorem dX12_name_76 : decode cX12_name 76 = .ok (.iconst 0, 1) := by decide +kernel
theorem dX12_name_77 : decode cX12_name 77 = .ok (.istore 8, 2) := by decide +kernel
theorem dX12_name_79 : decode cX12_name 79 = .ok (.iload 8, 2) := by decide +kernel
theorem dX12_name_81 : decode cX12_name 81 = .ok (.bipush 8, 2) := by decide +kernel
theorem dX12_name_83 : decode cX12_name 83 = .ok (.if_icmp .ge 94, 3) := by decide +kernel
theorem dX12_name_86 : decode cX12_name 86 = .ok (.iload_n 3, 1) := by decide +kernel
theorem dX12_name_87 : decode cX12_name 87 = .ok (.iload 5, 2) := by decide +kernel
theorem dX12_name_89 : decode cX12_name 89 = .ok (.if_icmp .ge 16, 3) := by decide +kernel
theorem dX12_name_92 : decode cX12_name 92 = .ok (.iload 8, 2) := by decide +kernel
theorem dX12_name_94 : decode cX12_name 94 = .ok (.iload 5, 2) := by decide +kernel
theorem dX12_name_96 : decode cX12_name 96 = .ok (.iload_n 3, 1) := by decide +kernel
theorem dX12_name_97 : decode cX12_name 97 = .ok (.isub, 1) := by decide +kernel
theorem dX12_name_98 : decode cX12_name 98 = .ok (.if_icmp .ge 7, 3) := by decide +kernel
theorem dX12_name_101 : decode cX12_name 101 = .ok (.iconst 1, 1) := by decide +kernel
theorem dX12_name_102 : decode cX12_name 102 = .ok (.goto 4, 3) := by decide +kernel
theorem dX12_name_105 : decode cX12_name 105 = .ok (.iconst 0, 1) := by decide +kernel
theorem dX12_name_106 : decode cX12_name 106 = .ok (.istore 9, 2) := by decide +kernel
theorem dX12_name_108 : decode cX12_name 108 = .ok (.iload 9, 2) := by decide +kernel
theorem dX12_name_110 : decode cX12_name 110 = .ok (.ifCond .ne 7, 3) := by decide +kernel
theorem dX12_name_113 : decode cX12_name 113 = .ok (.iconst 0, 1) := by decide +kernel
theorem dX12_name_114 : decode cX12_name 114 = .ok (.goto 44, 3) := by decide +kernel
theorem dX12_name_117 : decode cX12_name 117 = .ok (.iload 4, 2) := by decide +kernel
theorem dX12_name_119 : decode cX12_name 119 = .ok (.ifCond .eq 20, 3) := by decide +kernel
theorem dX12_name_122 : decode cX12_name 122 = .ok (.aload_n 0, 1) := by decide +kernel
theorem dX12_name_123 : decode cX12_name 123 = .ok (.getfield 957, 3) := by decide +kernel
theorem dX12_name_126 : decode cX12_name 126 = .ok (.bipush 101, 2) := by decide +kernel
theorem dX12_name_128 : decode cX12_name 128 = .ok (.iload_n 2, 1) := by decide +kernel
theorem dX12_name_129 : decode cX12_name 129 = .ok (.imul, 1) := by decide +kernel
theorem dX12_name_130 : decode cX12_name 130 = .ok (.iload_n 3, 1) := by decide +kernel
theorem dX12_name_131 : decode cX12_name 131 = .ok (.iadd, 1) := by decide +kernel
theorem dX12_name_132 : decode cX12_name 132 = .ok (.iload 8, 2) := by decide +kernel
theorem dX12_name_134 : decode cX12_name 134 = .ok (.iadd, 1) := by decide +kernel
theorem dX12_name_135 : decode cX12_name 135 = .ok (.iaload, 1) := by decide +kernel
theorem dX12_name_136 : decode cX12_name 136 = .ok (.goto 22, 3) := by decide +kernel
theorem dX12_name_139 : decode cX12_name 139 = .ok (.aload_n 0, 1) := by decide +kernel
theorem dX12_name_140 : decode cX12_name 140 = .ok (.getfield 805, 3) := by decide +kernel
theorem dX12_name_143 : decode cX12_name 143 = .ok (.bipush 20, 2) := by decide +kernel
theorem dX12_name_145 : decode cX12_name 145 = .ok (.bipush 6, 2) := by decide +kernel
theorem dX12_name_147 : decode cX12_name 147 = .ok (.iload_n 1, 1) := by decide +kernel
theorem dX12_name_148 : decode cX12_name 148 = .ok (.imul, 1) := by decide +kernel
theorem dX12_name_149 : decode cX12_name 149 = .ok (.iload_n 2, 1) := by decide +kernel
theorem dX12_name_150 : decode cX12_name 150 = .ok (.iadd, 1) := by decide +kernel
theorem dX12_name_151 : decode cX12_name 151 = .ok (.imul, 1) := by decide +kernel
theorem dX12_name_152 : decode cX12_name 152 = .ok (.iload_n 3, 1) := by decide +kernel
theorem dX12_name_153 : decode cX12_name 153 = .ok (.iadd, 1) := by decide +kernel
theorem dX12_name_154 : decode cX12_name 154 = .ok (.iload 8, 2) := by decide +kernel
theorem dX12_name_156 : decode cX12_name 156 = .ok (.iadd, 1) := by decide +kernel
theorem dX12_name_157 : decode cX12_name 157 = .ok (.iaload, 1) := by decide +kernel
theorem dX12_name_158 : decode cX12_name 158 = .ok (.istore 10, 2) := by decide +kernel
theorem dX12_name_160 : decode cX12_name 160 = .ok (.lload 6, 2) := by decide +kernel
theorem dX12_name_162 : decode cX12_name 162 = .ok (.bipush 8, 2) := by decide +kernel
theorem dX12_name_164 : decode cX12_name 164 = .ok (.lshl, 1) := by decide +kernel
theorem dX12_name_165 : decode cX12_name 165 = .ok (.iload 10, 2) := by decide +kernel
theorem dX12_name_167 : decode cX12_name 167 = .ok (.i2l, 1) := by decide +kernel
theorem dX12_name_168 : decode cX12_name 168 = .ok (.lor, 1) := by decide +kernel
theorem dX12_name_169 : decode cX12_name 169 = .ok (.lstore 6, 2) := by decide +kernel
theorem dX12_name_171 : decode cX12_name 171 = .ok (.iinc 8 1, 3) := by decide +kernel
theorem dX12_name_174 : decode cX12_name 174 = .ok (.goto (-95), 3) := by decide +kernel
theorem dX12_name_177 : decode cX12_name 177 = .ok (.lload 6, 2) := by decide +kernel
theorem dX12_name_179 : decode cX12_name 179 = .ok (.lreturn, 1) := by decide +kernel
theorem nI_mul (a b : Nat) : nI a * nI b = nI (a * b) := (Int32.ofNat_mul a b).symm
/-- the bytes of a text that lies in f from p on and is n long, from its j-th on; 0 behind -/
def rb (f : Nat → Int32) (p j n : Nat) : Nat → Int32 := fun b => if j + b < n then f (p + j + b) else 0
set_option maxRecDepth 100000 in
set_option maxHeartbeats 4000000 in
theorem cm_name_lb {l : Launch} {D : va_G} {A : Nat → ClassId} {B : Nat} {Z : State → Heap → Prop} (hZ : h_st B Z) {d : Nat} {σ : hS} {a n0 : Nat} {v : Nat → Int32} (ha : σ.1 a = some (.inr (12, mFs n0 v))) {bt : Nat → Int32} (hbt : σ.1 (n0 + 47) = some (.inl (A 0, 480, .inl bt))) {u' : Nat}  {k j n : Nat} (hj : j < 2 ^ 31) (hu : u' < 4) (hk : k < 6) (hn : n ≤ 20) : ∀ (m b : Nat), 9 ≤ b + m → b ≤ 8 → G l D (h_ty A) B Z mX12_name d σ (fun σ1 w => σ1 = σ ∧ w = some (.long (e8 (rb bt (20 * (6 * u' + k)) j n) 8))) σ 79 [(6, .long (e8 (rb bt (20 * (6 * u' + k)) j n) b)), (8, .int (nI b)), (0, .ref a), (1, .int (nI u')), (2, .int (nI k)), (3, .int (nI j)), (4, .int 0), (5, .int (nI n))] [] := by
  intro m
  induction m with
  | zero => intro b h1 h2; omega
  | succ m ih =>
    intro b h1 h2
    refine g_iload dX12_name_79 (List.mem_of_getElem? (i := 1) rfl) ?_
    refine g_bipush (v := 8) dX12_name_81 (by decide) ?_
    refine g_icmp_ge (tgt := 177) dX12_name_83 (by decide) (fun c83 => ?_) (fun c83 => ?_)
    · have c83 : b = 8 := by have := (nI_leI (a := 8) (b := b) (by decide) (by omega)).mp c83; omega
      subst c83
      refine g_lload dX12_name_177 (List.mem_of_getElem? (i := 0) rfl) ?_
      exact g_lret rfl dX12_name_179 ⟨rfl, rfl⟩
    · have hb : b < 8 := Nat.lt_of_not_le fun h => c83 ((nI_leI (a := 8) (b := b) (by decide) (by omega)).mpr h)
      refine g_iload_n dX12_name_86 rfl (List.mem_of_getElem? (i := 5) rfl) ?_
      refine g_iload dX12_name_87 (List.mem_of_getElem? (i := 7) rfl) ?_
      refine g_icmp_ge (tgt := 105) dX12_name_89 (by decide) (fun c89 => ?_) (fun c89 => ?_)
      · have hb9 : rb bt (20 * (6 * u' + k)) j n b = 0 := if_neg (fun h => by have := (nI_leI (a := n) (b := j) (by omega) hj).mp c89; omega)
        refine g_iconst (v := 0) dX12_name_105 (by decide) ?_
        refine g_istore dX12_name_106 (by decide) rfl ?_
        refine g_iload dX12_name_108 (List.mem_of_getElem? (i := 0) rfl) ?_
        refine g_if_ne (tgt := 117) dX12_name_110 (by decide) (fun c110 => absurd (by decide) c110) (fun c110 => ?_)
        refine g_iconst (v := 0) dX12_name_113 (by decide) ?_
        refine g_goto (tgt := 158) dX12_name_114 (by decide) ?_
        refine g_istore dX12_name_158 (by decide) rfl ?_
        refine g_lload dX12_name_160 (List.mem_of_getElem? (i := 2) rfl) ?_
        refine g_bipush (v := 8) dX12_name_162 (by decide) ?_
        refine g_lshl dX12_name_164 rfl ?_
        refine g_iload dX12_name_165 (List.mem_of_getElem? (i := 0) rfl) ?_
        refine g_i2l dX12_name_167 rfl ?_
        refine g_lor dX12_name_168 ?_
        refine g_eql (e8 (rb bt (20 * (6 * u' + k)) j n) (b + 1)) (by show _ = (e8 (rb bt (20 * (6 * u' + k)) j n) b <<< _) ||| (rb bt (20 * (6 * u' + k)) j n b).toInt64; rw [hb9]) ?_
        refine g_lstore dX12_name_169 (by decide) rfl ?_
        refine g_iinc (v := nI (b + 1)) dX12_name_171 (k := 3) rfl (nI_1 b) (by decide) rfl ?_
        refine g_goto (tgt := 79) dX12_name_174 (by decide) ?_
        refine g_lv [1, 0, 4, 5, 6, 7, 8, 9] rfl ?_
        exact ih (b + 1) (by omega) (by omega)
      · have hjn : j < n := Nat.lt_of_not_le fun h => c89 ((nI_leI (a := n) (b := j) (by omega) hj).mpr h)
        refine g_iload dX12_name_92 (List.mem_of_getElem? (i := 1) rfl) ?_
        refine g_iload dX12_name_94 (List.mem_of_getElem? (i := 7) rfl) ?_
        refine g_iload_n dX12_name_96 rfl (List.mem_of_getElem? (i := 5) rfl) ?_
        refine g_isub dX12_name_97 ?_
        refine g_eqi (nI (n - j)) (pk_sub (by omega)) ?_
        refine g_icmp_ge (tgt := 105) dX12_name_98 (by decide) (fun c98 => ?_) (fun c98 => ?_)
        · have hb9 : rb bt (20 * (6 * u' + k)) j n b = 0 := if_neg (fun h => by have := (nI_leI (a := n - j) (b := b) (by omega) (by omega)).mp c98; omega)
          refine g_iconst (v := 0) dX12_name_105 (by decide) ?_
          refine g_istore dX12_name_106 (by decide) rfl ?_
          refine g_iload dX12_name_108 (List.mem_of_getElem? (i := 0) rfl) ?_
          refine g_if_ne (tgt := 117) dX12_name_110 (by decide) (fun c110 => absurd (by decide) c110) (fun c110 => ?_)
          refine g_iconst (v := 0) dX12_name_113 (by decide) ?_
          refine g_goto (tgt := 158) dX12_name_114 (by decide) ?_
          refine g_istore dX12_name_158 (by decide) rfl ?_
          refine g_lload dX12_name_160 (List.mem_of_getElem? (i := 2) rfl) ?_
          refine g_bipush (v := 8) dX12_name_162 (by decide) ?_
          refine g_lshl dX12_name_164 rfl ?_
          refine g_iload dX12_name_165 (List.mem_of_getElem? (i := 0) rfl) ?_
          refine g_i2l dX12_name_167 rfl ?_
          refine g_lor dX12_name_168 ?_
          refine g_eql (e8 (rb bt (20 * (6 * u' + k)) j n) (b + 1)) (by show _ = (e8 (rb bt (20 * (6 * u' + k)) j n) b <<< _) ||| (rb bt (20 * (6 * u' + k)) j n b).toInt64; rw [hb9]) ?_
          refine g_lstore dX12_name_169 (by decide) rfl ?_
          refine g_iinc (v := nI (b + 1)) dX12_name_171 (k := 3) rfl (nI_1 b) (by decide) rfl ?_
          refine g_goto (tgt := 79) dX12_name_174 (by decide) ?_
          refine g_lv [1, 0, 4, 5, 6, 7, 8, 9] rfl ?_
          exact ih (b + 1) (by omega) (by omega)
        · have hin : j + b < n := by have := Nat.lt_of_not_le fun h => c98 ((nI_leI (a := n - j) (b := b) (by omega) (by omega)).mpr h); omega
          have hb9 : rb bt (20 * (6 * u' + k)) j n b = bt (20 * (6 * u' + k) + j + b) := if_pos hin
          refine g_iconst (v := 1) dX12_name_101 (by decide) ?_
          refine g_goto (tgt := 106) dX12_name_102 (by decide) ?_
          refine g_istore dX12_name_106 (by decide) rfl ?_
          refine g_iload dX12_name_108 (List.mem_of_getElem? (i := 0) rfl) ?_
          refine g_if_ne (tgt := 117) dX12_name_110 (by decide) (fun c110 => ?_) (fun c110 => absurd c110 (by decide))
          refine g_iload dX12_name_117 (List.mem_of_getElem? (i := 7) rfl) ?_
          refine g_if_eq (tgt := 139) dX12_name_119 (by decide) (fun c119 => ?_) (fun c119 => absurd (by decide) c119)
          refine g_aload_n dX12_name_139 rfl (List.mem_of_getElem? (i := 3) rfl) ?_
          refine g_get fX12_805 ha (v := .ref (n0 + 47)) (mFs_get (by decide) rfl) dX12_name_140 ?_
          refine g_bipush (v := 20) dX12_name_143 (by decide) ?_
          refine g_bipush (v := 6) dX12_name_145 (by decide) ?_
          refine g_iload_n dX12_name_147 rfl (List.mem_of_getElem? (i := 4) rfl) ?_
          refine g_imul dX12_name_148 ?_
          refine g_eqi (nI (6 * u')) (nI_mul 6 u') ?_
          refine g_iload_n dX12_name_149 rfl (List.mem_of_getElem? (i := 5) rfl) ?_
          refine g_iadd dX12_name_150 ?_
          refine g_eqi (nI (6 * u' + k)) (nI_add _ _) ?_
          refine g_imul dX12_name_151 ?_
          refine g_eqi (nI (20 * (6 * u' + k))) (nI_mul 20 _) ?_
          refine g_iload_n dX12_name_152 rfl (List.mem_of_getElem? (i := 6) rfl) ?_
          refine g_iadd dX12_name_153 ?_
          refine g_eqi (nI (20 * (6 * u' + k) + j)) (nI_add _ _) ?_
          refine g_iload dX12_name_154 (List.mem_of_getElem? (i := 2) rfl) ?_
          refine g_iadd dX12_name_156 ?_
          refine g_eqi (nI (20 * (6 * u' + k) + j + b)) (nI_add _ _) ?_
          refine g_iald (t0 := 0) rfl hbt (vp_in_nI (by omega) (by decide)) dX12_name_157 ?_
          refine g_eqi (bt (20 * (6 * u' + k) + j + b)) (by rw [nI_clamp (by omega)]) ?_
          refine g_istore dX12_name_158 (by decide) rfl ?_
          refine g_lload dX12_name_160 (List.mem_of_getElem? (i := 2) rfl) ?_
          refine g_bipush (v := 8) dX12_name_162 (by decide) ?_
          refine g_lshl dX12_name_164 rfl ?_
          refine g_iload dX12_name_165 (List.mem_of_getElem? (i := 0) rfl) ?_
          refine g_i2l dX12_name_167 rfl ?_
          refine g_lor dX12_name_168 ?_
          refine g_eql (e8 (rb bt (20 * (6 * u' + k)) j n) (b + 1)) (by show _ = (e8 (rb bt (20 * (6 * u' + k)) j n) b <<< _) ||| (rb bt (20 * (6 * u' + k)) j n b).toInt64; rw [hb9]) ?_
          refine g_lstore dX12_name_169 (by decide) rfl ?_
          refine g_iinc (v := nI (b + 1)) dX12_name_171 (k := 3) rfl (nI_1 b) (by decide) rfl ?_
          refine g_goto (tgt := 79) dX12_name_174 (by decide) ?_
          refine g_lv [1, 0, 4, 5, 6, 7, 8, 9] rfl ?_
          exact ih (b + 1) (by omega) (by omega)
set_option maxRecDepth 100000 in
set_option maxHeartbeats 4000000 in
theorem cm_name_lo {l : Launch} {D : va_G} {A : Nat → ClassId} {B : Nat} {Z : State → Heap → Prop} (hZ : h_st B Z) {d : Nat} {σ : hS} {a n0 : Nat} {v : Nat → Int32} (ha : σ.1 a = some (.inr (12, mFs n0 v))) {st : Nat → Int32} (hst : σ.1 (n0 + 44) = some (.inl (A 0, 10300, .inl st))) {u' : Int32}  {k j n : Nat} (hj : j < 2 ^ 31) (hk : k < 101) (hn : n ≤ 101) : ∀ (m b : Nat), 9 ≤ b + m → b ≤ 8 → G l D (h_ty A) B Z mX12_name d σ (fun σ1 w => σ1 = σ ∧ w = some (.long (e8 (rb st (101 * k) j n) 8))) σ 79 [(6, .long (e8 (rb st (101 * k) j n) b)), (8, .int (nI b)), (0, .ref a), (1, .int u'), (2, .int (nI k)), (3, .int (nI j)), (4, .int 1), (5, .int (nI n))] [] := by
  intro m
  induction m with
  | zero => intro b h1 h2; omega
  | succ m ih =>
    intro b h1 h2
    refine g_iload dX12_name_79 (List.mem_of_getElem? (i := 1) rfl) ?_
    refine g_bipush (v := 8) dX12_name_81 (by decide) ?_
    refine g_icmp_ge (tgt := 177) dX12_name_83 (by decide) (fun c83 => ?_) (fun c83 => ?_)
    · have c83 : b = 8 := by have := (nI_leI (a := 8) (b := b) (by decide) (by omega)).mp c83; omega
      subst c83
      refine g_lload dX12_name_177 (List.mem_of_getElem? (i := 0) rfl) ?_
      exact g_lret rfl dX12_name_179 ⟨rfl, rfl⟩
    · have hb : b < 8 := Nat.lt_of_not_le fun h => c83 ((nI_leI (a := 8) (b := b) (by decide) (by omega)).mpr h)
      refine g_iload_n dX12_name_86 rfl (List.mem_of_getElem? (i := 5) rfl) ?_
      refine g_iload dX12_name_87 (List.mem_of_getElem? (i := 7) rfl) ?_
      refine g_icmp_ge (tgt := 105) dX12_name_89 (by decide) (fun c89 => ?_) (fun c89 => ?_)
      · have hb9 : rb st (101 * k) j n b = 0 := if_neg (fun h => by have := (nI_leI (a := n) (b := j) (by omega) hj).mp c89; omega)
        refine g_iconst (v := 0) dX12_name_105 (by decide) ?_
        refine g_istore dX12_name_106 (by decide) rfl ?_
        refine g_iload dX12_name_108 (List.mem_of_getElem? (i := 0) rfl) ?_
        refine g_if_ne (tgt := 117) dX12_name_110 (by decide) (fun c110 => absurd (by decide) c110) (fun c110 => ?_)
        refine g_iconst (v := 0) dX12_name_113 (by decide) ?_
        refine g_goto (tgt := 158) dX12_name_114 (by decide) ?_
        refine g_istore dX12_name_158 (by decide) rfl ?_
        refine g_lload dX12_name_160 (List.mem_of_getElem? (i := 2) rfl) ?_
        refine g_bipush (v := 8) dX12_name_162 (by decide) ?_
        refine g_lshl dX12_name_164 rfl ?_
        refine g_iload dX12_name_165 (List.mem_of_getElem? (i := 0) rfl) ?_
        refine g_i2l dX12_name_167 rfl ?_
        refine g_lor dX12_name_168 ?_
        refine g_eql (e8 (rb st (101 * k) j n) (b + 1)) (by show _ = (e8 (rb st (101 * k) j n) b <<< _) ||| (rb st (101 * k) j n b).toInt64; rw [hb9]) ?_
        refine g_lstore dX12_name_169 (by decide) rfl ?_
        refine g_iinc (v := nI (b + 1)) dX12_name_171 (k := 3) rfl (nI_1 b) (by decide) rfl ?_
        refine g_goto (tgt := 79) dX12_name_174 (by decide) ?_
        refine g_lv [1, 0, 4, 5, 6, 7, 8, 9] rfl ?_
        exact ih (b + 1) (by omega) (by omega)
      · have hjn : j < n := Nat.lt_of_not_le fun h => c89 ((nI_leI (a := n) (b := j) (by omega) hj).mpr h)
        refine g_iload dX12_name_92 (List.mem_of_getElem? (i := 1) rfl) ?_
        refine g_iload dX12_name_94 (List.mem_of_getElem? (i := 7) rfl) ?_
        refine g_iload_n dX12_name_96 rfl (List.mem_of_getElem? (i := 5) rfl) ?_
        refine g_isub dX12_name_97 ?_
        refine g_eqi (nI (n - j)) (pk_sub (by omega)) ?_
        refine g_icmp_ge (tgt := 105) dX12_name_98 (by decide) (fun c98 => ?_) (fun c98 => ?_)
        · have hb9 : rb st (101 * k) j n b = 0 := if_neg (fun h => by have := (nI_leI (a := n - j) (b := b) (by omega) (by omega)).mp c98; omega)
          refine g_iconst (v := 0) dX12_name_105 (by decide) ?_
          refine g_istore dX12_name_106 (by decide) rfl ?_
          refine g_iload dX12_name_108 (List.mem_of_getElem? (i := 0) rfl) ?_
          refine g_if_ne (tgt := 117) dX12_name_110 (by decide) (fun c110 => absurd (by decide) c110) (fun c110 => ?_)
          refine g_iconst (v := 0) dX12_name_113 (by decide) ?_
          refine g_goto (tgt := 158) dX12_name_114 (by decide) ?_
          refine g_istore dX12_name_158 (by decide) rfl ?_
          refine g_lload dX12_name_160 (List.mem_of_getElem? (i := 2) rfl) ?_
          refine g_bipush (v := 8) dX12_name_162 (by decide) ?_
          refine g_lshl dX12_name_164 rfl ?_
          refine g_iload dX12_name_165 (List.mem_of_getElem? (i := 0) rfl) ?_
          refine g_i2l dX12_name_167 rfl ?_
          refine g_lor dX12_name_168 ?_
          refine g_eql (e8 (rb st (101 * k) j n) (b + 1)) (by show _ = (e8 (rb st (101 * k) j n) b <<< _) ||| (rb st (101 * k) j n b).toInt64; rw [hb9]) ?_
          refine g_lstore dX12_name_169 (by decide) rfl ?_
          refine g_iinc (v := nI (b + 1)) dX12_name_171 (k := 3) rfl (nI_1 b) (by decide) rfl ?_
          refine g_goto (tgt := 79) dX12_name_174 (by decide) ?_
          refine g_lv [1, 0, 4, 5, 6, 7, 8, 9] rfl ?_
          exact ih (b + 1) (by omega) (by omega)
        · have hin : j + b < n := by have := Nat.lt_of_not_le fun h => c98 ((nI_leI (a := n - j) (b := b) (by omega) (by omega)).mpr h); omega
          have hb9 : rb st (101 * k) j n b = st (101 * k + j + b) := if_pos hin
          refine g_iconst (v := 1) dX12_name_101 (by decide) ?_
          refine g_goto (tgt := 106) dX12_name_102 (by decide) ?_
          refine g_istore dX12_name_106 (by decide) rfl ?_
          refine g_iload dX12_name_108 (List.mem_of_getElem? (i := 0) rfl) ?_
          refine g_if_ne (tgt := 117) dX12_name_110 (by decide) (fun c110 => ?_) (fun c110 => absurd c110 (by decide))
          refine g_iload dX12_name_117 (List.mem_of_getElem? (i := 7) rfl) ?_
          refine g_if_eq (tgt := 139) dX12_name_119 (by decide) (fun c119 => absurd c119 (by decide)) (fun c119 => ?_)
          refine g_aload_n dX12_name_122 rfl (List.mem_of_getElem? (i := 3) rfl) ?_
          refine g_get fX12_957 ha (v := .ref (n0 + 44)) (mFs_get (by decide) rfl) dX12_name_123 ?_
          refine g_bipush (v := 101) dX12_name_126 (by decide) ?_
          refine g_iload_n dX12_name_128 rfl (List.mem_of_getElem? (i := 5) rfl) ?_
          refine g_imul dX12_name_129 ?_
          refine g_eqi (nI (101 * k)) (nI_mul 101 k) ?_
          refine g_iload_n dX12_name_130 rfl (List.mem_of_getElem? (i := 6) rfl) ?_
          refine g_iadd dX12_name_131 ?_
          refine g_eqi (nI (101 * k + j)) (nI_add _ _) ?_
          refine g_iload dX12_name_132 (List.mem_of_getElem? (i := 2) rfl) ?_
          refine g_iadd dX12_name_134 ?_
          refine g_eqi (nI (101 * k + j + b)) (nI_add _ _) ?_
          refine g_iald (t0 := 0) rfl hst (vp_in_nI (by omega) (by decide)) dX12_name_135 ?_
          refine g_eqi (st (101 * k + j + b)) (by rw [nI_clamp (by omega)]) ?_
          refine g_goto (tgt := 158) dX12_name_136 (by decide) ?_
          refine g_istore dX12_name_158 (by decide) rfl ?_
          refine g_lload dX12_name_160 (List.mem_of_getElem? (i := 2) rfl) ?_
          refine g_bipush (v := 8) dX12_name_162 (by decide) ?_
          refine g_lshl dX12_name_164 rfl ?_
          refine g_iload dX12_name_165 (List.mem_of_getElem? (i := 0) rfl) ?_
          refine g_i2l dX12_name_167 rfl ?_
          refine g_lor dX12_name_168 ?_
          refine g_eql (e8 (rb st (101 * k) j n) (b + 1)) (by show _ = (e8 (rb st (101 * k) j n) b <<< _) ||| (rb st (101 * k) j n b).toInt64; rw [hb9]) ?_
          refine g_lstore dX12_name_169 (by decide) rfl ?_
          refine g_iinc (v := nI (b + 1)) dX12_name_171 (k := 3) rfl (nI_1 b) (by decide) rfl ?_
          refine g_goto (tgt := 79) dX12_name_174 (by decide) ?_
          refine g_lv [1, 0, 4, 5, 6, 7, 8, 9] rfl ?_
          exact ih (b + 1) (by omega) (by omega)
set_option maxRecDepth 100000 in
set_option maxHeartbeats 4000000 in
/-- the reference: name -/
theorem cm_name {l : Launch} {D : va_G} {A : Nat → ClassId} {B : Nat} {Z : State → Heap → Prop} (hZ : h_st B Z) {d : Nat} {σ : hS} {a n0 : Nat} {v : Nat → Int32} (ha : σ.1 a = some (.inr (12, mFs n0 v))) {bb : Nat → Int32} {bx : Nat → Nat} (hbb : σ.1 (n0 + 46) = some (.inl (A 0, 4, .inl bb))) (hbx : ∀ u : Nat, u < 4 → bb u = nI (bx u) ∧ bx u ≤ 6) {st : Nat → Int32} (hst : σ.1 (n0 + 44) = some (.inl (A 0, 10300, .inl st))) {bt : Nat → Int32} (hbt : σ.1 (n0 + 47) = some (.inl (A 0, 480, .inl bt))) {zz bs : Nat → Int32} {sz : Nat → Nat} {bl : Nat → Nat → Nat} {sn : Nat} (hzz : σ.1 (n0 + 45) = some (.inl (A 0, 101, .inl zz))) (hbs : σ.1 (n0 + 48) = some (.inl (A 0, 24, .inl bs))) (hsn : v 71 = nI sn) (hsn1 : sn ≤ 100) (hsz : ∀ k : Nat, k < sn → zz k = nI (sz k) ∧ sz k ≤ 101) (hbl : ∀ u k : Nat, u < 4 → k < bx u → bs (6 * u + k) = nI (bl u k) ∧ bl u k ≤ 20) (hd1 : 1 ≤ d) {u b i : Int32} : Ct l D (h_ty A) B Z d mX12_name σ [.ref a, .int u, .int b, .int i] (fun σ1 w => σ1 = σ ∧ ((∃ j : Nat, j < 2 ^ 31 ∧ i = nI j ∧ (u = 4 ∧ (∃ k, k < sn ∧ b = nI k ∧ w = some (.long (e8 (rb st (101 * k) j (sz k)) 8))) ∨ ¬ u = 4 ∧ ∃ u' b' : Nat, u' < 4 ∧ b' < bx u' ∧ u = nI u' ∧ b = nI b' ∧ w = some (.long (e8 (rb bt (20 * (6 * u' + b')) j (bl u' b')) 8)))) ∨ ¬ (∃ j : Nat, j < 2 ^ 31 ∧ i = nI j ∧ (u = 4 ∧ (∃ k, k < sn ∧ b = nI k) ∨ ¬ u = 4 ∧ ∃ u' b' : Nat, u' < 4 ∧ b' < bx u' ∧ u = nI u' ∧ b = nI b')) ∧ w = some (.long (-1)))) := by
  refine ct_of rfl hZ (Nat.le_of_ble_eq_true rfl) ?_
  show G _ _ _ _ _ _ _ _ _ _ 0 [(0, .ref a), (1, .int u), (2, .int b), (3, .int i)] []
  refine g_iload_n dX12_name_0 rfl (List.mem_of_getElem? (i := 1) rfl) ?_
  refine g_iconst (v := 4) dX12_name_1 (by decide) ?_
  refine g_icmp_ne (tgt := 21) dX12_name_2 (by decide) (fun c2 => ?_) (fun c2 => ?_)
  · have hno1 : ¬ (u = 4 ∧ ∃ k, k < sn ∧ b = nI k) := fun h => c2 h.1
    refine g_iconst (v := 0) dX12_name_21 (by decide) ?_
    refine g_istore dX12_name_22 (by decide) rfl ?_
    refine g_iload_n dX12_name_24 rfl (List.mem_of_getElem? (i := 4) rfl) ?_
    refine g_if_lt (tgt := 42) dX12_name_25 (by decide) (fun c25 => ?_) (fun c25 => ?_)
    · have c25 := c25
      refine g_ldc2 cX12_561 dX12_name_42 ?_
      exact g_lret rfl dX12_name_45 (⟨rfl, Or.inr ⟨fun ⟨j, hj, e, _⟩ => by subst e; exact nI_pos hj c25, rfl⟩⟩)
    · obtain ⟨j, hj, rfl⟩ := nI_of c25
      refine g_iload dX12_name_28 (List.mem_of_getElem? (i := 0) rfl) ?_
      refine g_if_ne (tgt := 46) dX12_name_30 (by decide) (fun c30 => absurd (by decide) c30) (fun c30 => ?_)
      refine g_aload_n dX12_name_33 rfl (List.mem_of_getElem? (i := 1) rfl) ?_
      refine g_iload_n dX12_name_34 rfl (List.mem_of_getElem? (i := 2) rfl) ?_
      refine g_iload_n dX12_name_35 rfl (List.mem_of_getElem? (i := 3) rfl) ?_
      refine g_cv (d1 := 0) (As := [.int u, .int b]) (st := []) (cm_isBox hZ ha hbb hbx (u := u) (b := b)) (h_rcO (r := (RX12, TX12, 153)) ha rfl) kX12_isBox lX12_1389 sX12_isBox (by omega) (Nat.le_of_ble_eq_true rfl) dX12_name_36 (fun τ36 v36 h36 z36 => ?_)
      obtain ⟨rfl, h36⟩ := h36
      obtain ⟨r36, rfl, k36⟩ : ∃ r : Int32, v36 = some (.int r) ∧ (r = 1 ∧ bxI bx u b ∨ r = 0 ∧ ¬ bxI bx u b) := by
        rcases h36 with ⟨h1, h2⟩ | ⟨h1, h2⟩
        · exact ⟨1, h1, Or.inl ⟨rfl, h2⟩⟩
        · exact ⟨0, h1, Or.inr ⟨rfl, h2⟩⟩
      show G _ _ _ _ _ _ _ _ _ _ 39 [(4, .int 0), (0, .ref a), (1, .int u), (2, .int b), (3, .int (nI j))] [.int r36]
      refine g_if_ne (tgt := 46) dX12_name_39 (by decide) (fun c39 => ?_) (fun c39 => ?_)
      · have hyes : bxI bx u b := by
          rcases k36 with ⟨h1, h2⟩ | ⟨h1, h2⟩
          · exact h2
          · exact absurd h1 c39
        obtain ⟨u', b', hu', hb', rfl, rfl⟩ := hyes
        have hb6 := (hbx u' hu').2
        have hbl1 := hbl u' b' hu' hb'
        refine g_iload dX12_name_46 (List.mem_of_getElem? (i := 0) rfl) ?_
        refine g_if_eq (tgt := 60) dX12_name_48 (by decide) (fun c48 => ?_) (fun c48 => absurd (by decide) c48)
        refine g_aload_n dX12_name_60 rfl (List.mem_of_getElem? (i := 1) rfl) ?_
        refine g_get fX12_802 ha (v := .ref (n0 + 48)) (mFs_get (by decide) rfl) dX12_name_61 ?_
        refine g_bipush (v := 6) dX12_name_64 (by decide) ?_
        refine g_iload_n dX12_name_66 rfl (List.mem_of_getElem? (i := 2) rfl) ?_
        refine g_imul dX12_name_67 ?_
        refine g_eqi (nI (6 * u')) (nI_mul 6 u') ?_
        refine g_iload_n dX12_name_68 rfl (List.mem_of_getElem? (i := 3) rfl) ?_
        refine g_iadd dX12_name_69 ?_
        refine g_eqi (nI (6 * u' + b')) (nI_add _ _) ?_
        refine g_iald (t0 := 0) rfl hbs (vp_in_nI (by omega) (by decide)) dX12_name_70 ?_
        refine g_eqi (nI (bl u' b')) (by rw [nI_clamp (by omega)]; exact hbl1.1) ?_
        refine g_istore dX12_name_71 (by decide) rfl ?_
        refine g_lconst (v := 0) dX12_name_73 (by decide) ?_
        refine g_lstore dX12_name_74 (by decide) rfl ?_
        refine g_iconst (v := 0) dX12_name_76 (by decide) ?_
        refine g_istore dX12_name_77 (by decide) rfl ?_
        refine g_lv [1, 0, 4, 5, 6, 7, 3, 2] rfl ?_
        exact g_post (cm_name_lb hZ ha hbt hj hu' (by omega) hbl1.2 9 0 (by omega) (by omega)) (fun σ1 w h => ⟨h.1, Or.inl ⟨j, hj, rfl, Or.inr ⟨c2, u', b', hu', hb', rfl, rfl, h.2⟩⟩⟩)
      · have hno : ¬ bxI bx u b := by
          rcases k36 with ⟨h1, h2⟩ | ⟨h1, h2⟩
          · rw [h1] at c39; exact absurd c39 (by decide)
          · exact h2
        refine g_ldc2 cX12_561 dX12_name_42 ?_
        exact g_lret rfl dX12_name_45 (⟨rfl, Or.inr ⟨fun ⟨_, _, _, h⟩ => h.elim (fun h => hno1 h) (fun ⟨_, u1, b1, h1, h2, h3, h4⟩ => hno ⟨u1, b1, h1, h2, h3, h4⟩), rfl⟩⟩)
  · have c2 := c2
    refine g_iload_n dX12_name_5 rfl (List.mem_of_getElem? (i := 2) rfl) ?_
    refine g_if_lt (tgt := 21) dX12_name_6 (by decide) (fun c6 => ?_) (fun c6 => ?_)
    · have hno1 : ¬ (u = 4 ∧ ∃ k, k < sn ∧ b = nI k) := fun ⟨_, k, h1, h2⟩ => by subst h2; exact nI_pos (by omega) c6
      refine g_iconst (v := 0) dX12_name_21 (by decide) ?_
      refine g_istore dX12_name_22 (by decide) rfl ?_
      refine g_iload_n dX12_name_24 rfl (List.mem_of_getElem? (i := 4) rfl) ?_
      refine g_if_lt (tgt := 42) dX12_name_25 (by decide) (fun c25 => ?_) (fun c25 => ?_)
      · have c25 := c25
        refine g_ldc2 cX12_561 dX12_name_42 ?_
        exact g_lret rfl dX12_name_45 (⟨rfl, Or.inr ⟨fun ⟨j, hj, e, _⟩ => by subst e; exact nI_pos hj c25, rfl⟩⟩)
      · obtain ⟨j, hj, rfl⟩ := nI_of c25
        refine g_iload dX12_name_28 (List.mem_of_getElem? (i := 0) rfl) ?_
        refine g_if_ne (tgt := 46) dX12_name_30 (by decide) (fun c30 => absurd (by decide) c30) (fun c30 => ?_)
        refine g_aload_n dX12_name_33 rfl (List.mem_of_getElem? (i := 1) rfl) ?_
        refine g_iload_n dX12_name_34 rfl (List.mem_of_getElem? (i := 2) rfl) ?_
        refine g_iload_n dX12_name_35 rfl (List.mem_of_getElem? (i := 3) rfl) ?_
        refine g_cv (d1 := 0) (As := [.int u, .int b]) (st := []) (cm_isBox hZ ha hbb hbx (u := u) (b := b)) (h_rcO (r := (RX12, TX12, 153)) ha rfl) kX12_isBox lX12_1389 sX12_isBox (by omega) (Nat.le_of_ble_eq_true rfl) dX12_name_36 (fun τ36 v36 h36 z36 => ?_)
        obtain ⟨rfl, h36⟩ := h36
        obtain ⟨r36, rfl, k36⟩ : ∃ r : Int32, v36 = some (.int r) ∧ (r = 1 ∧ bxI bx u b ∨ r = 0 ∧ ¬ bxI bx u b) := by
          rcases h36 with ⟨h1, h2⟩ | ⟨h1, h2⟩
          · exact ⟨1, h1, Or.inl ⟨rfl, h2⟩⟩
          · exact ⟨0, h1, Or.inr ⟨rfl, h2⟩⟩
        show G _ _ _ _ _ _ _ _ _ _ 39 [(4, .int 0), (0, .ref a), (1, .int u), (2, .int b), (3, .int (nI j))] [.int r36]
        refine g_if_ne (tgt := 46) dX12_name_39 (by decide) (fun c39 => ?_) (fun c39 => ?_)
        · have hyes : bxI bx u b := by
            rcases k36 with ⟨h1, h2⟩ | ⟨h1, h2⟩
            · exact h2
            · exact absurd h1 c39
          obtain ⟨u', b', hu', hb', e1, e2⟩ := hyes
          exact absurd ((nI_eq (a := 4) (b := u') (by decide) (by omega)).mp (c2.symm.trans e1)) (by omega)
        · have hno : ¬ bxI bx u b := by
            rcases k36 with ⟨h1, h2⟩ | ⟨h1, h2⟩
            · rw [h1] at c39; exact absurd c39 (by decide)
            · exact h2
          refine g_ldc2 cX12_561 dX12_name_42 ?_
          exact g_lret rfl dX12_name_45 (⟨rfl, Or.inr ⟨fun ⟨_, _, _, h⟩ => h.elim (fun h => hno1 h) (fun ⟨_, u1, b1, h1, h2, h3, h4⟩ => hno ⟨u1, b1, h1, h2, h3, h4⟩), rfl⟩⟩)
    · have c6 := c6
      refine g_iload_n dX12_name_9 rfl (List.mem_of_getElem? (i := 2) rfl) ?_
      refine g_aload_n dX12_name_10 rfl (List.mem_of_getElem? (i := 0) rfl) ?_
      refine g_get fX12_566 ha (v := .int (v 71)) (mFs_int (by decide) rfl) dX12_name_11 ?_
      refine g_icmp_ge (tgt := 21) dX12_name_14 (by decide) (fun c14 => ?_) (fun c14 => ?_)
      · have hno1 : ¬ (u = 4 ∧ ∃ k, k < sn ∧ b = nI k) := fun ⟨_, k, h1, h2⟩ => by
          rw [h2, hsn] at c14
          have := (nI_leI (a := sn) (b := k) (by omega) (by omega)).mp c14
          omega
        refine g_iconst (v := 0) dX12_name_21 (by decide) ?_
        refine g_istore dX12_name_22 (by decide) rfl ?_
        refine g_iload_n dX12_name_24 rfl (List.mem_of_getElem? (i := 4) rfl) ?_
        refine g_if_lt (tgt := 42) dX12_name_25 (by decide) (fun c25 => ?_) (fun c25 => ?_)
        · have c25 := c25
          refine g_ldc2 cX12_561 dX12_name_42 ?_
          exact g_lret rfl dX12_name_45 (⟨rfl, Or.inr ⟨fun ⟨j, hj, e, _⟩ => by subst e; exact nI_pos hj c25, rfl⟩⟩)
        · obtain ⟨j, hj, rfl⟩ := nI_of c25
          refine g_iload dX12_name_28 (List.mem_of_getElem? (i := 0) rfl) ?_
          refine g_if_ne (tgt := 46) dX12_name_30 (by decide) (fun c30 => absurd (by decide) c30) (fun c30 => ?_)
          refine g_aload_n dX12_name_33 rfl (List.mem_of_getElem? (i := 1) rfl) ?_
          refine g_iload_n dX12_name_34 rfl (List.mem_of_getElem? (i := 2) rfl) ?_
          refine g_iload_n dX12_name_35 rfl (List.mem_of_getElem? (i := 3) rfl) ?_
          refine g_cv (d1 := 0) (As := [.int u, .int b]) (st := []) (cm_isBox hZ ha hbb hbx (u := u) (b := b)) (h_rcO (r := (RX12, TX12, 153)) ha rfl) kX12_isBox lX12_1389 sX12_isBox (by omega) (Nat.le_of_ble_eq_true rfl) dX12_name_36 (fun τ36 v36 h36 z36 => ?_)
          obtain ⟨rfl, h36⟩ := h36
          obtain ⟨r36, rfl, k36⟩ : ∃ r : Int32, v36 = some (.int r) ∧ (r = 1 ∧ bxI bx u b ∨ r = 0 ∧ ¬ bxI bx u b) := by
            rcases h36 with ⟨h1, h2⟩ | ⟨h1, h2⟩
            · exact ⟨1, h1, Or.inl ⟨rfl, h2⟩⟩
            · exact ⟨0, h1, Or.inr ⟨rfl, h2⟩⟩
          show G _ _ _ _ _ _ _ _ _ _ 39 [(4, .int 0), (0, .ref a), (1, .int u), (2, .int b), (3, .int (nI j))] [.int r36]
          refine g_if_ne (tgt := 46) dX12_name_39 (by decide) (fun c39 => ?_) (fun c39 => ?_)
          · have hyes : bxI bx u b := by
              rcases k36 with ⟨h1, h2⟩ | ⟨h1, h2⟩
              · exact h2
              · exact absurd h1 c39
            obtain ⟨u', b', hu', hb', e1, e2⟩ := hyes
            exact absurd ((nI_eq (a := 4) (b := u') (by decide) (by omega)).mp (c2.symm.trans e1)) (by omega)
          · have hno : ¬ bxI bx u b := by
              rcases k36 with ⟨h1, h2⟩ | ⟨h1, h2⟩
              · rw [h1] at c39; exact absurd c39 (by decide)
              · exact h2
            refine g_ldc2 cX12_561 dX12_name_42 ?_
            exact g_lret rfl dX12_name_45 (⟨rfl, Or.inr ⟨fun ⟨_, _, _, h⟩ => h.elim (fun h => hno1 h) (fun ⟨_, u1, b1, h1, h2, h3, h4⟩ => hno ⟨u1, b1, h1, h2, h3, h4⟩), rfl⟩⟩)
      · obtain ⟨k, hk2, rfl⟩ := nI_of c6
        rw [hsn] at c14
        have hk : k < sn := Nat.lt_of_not_le fun h => c14 ((nI_leI (a := sn) (b := k) (by omega) hk2).mpr h)
        refine g_iconst (v := 1) dX12_name_17 (by decide) ?_
        refine g_goto (tgt := 22) dX12_name_18 (by decide) ?_
        refine g_istore dX12_name_22 (by decide) rfl ?_
        refine g_iload_n dX12_name_24 rfl (List.mem_of_getElem? (i := 4) rfl) ?_
        refine g_if_lt (tgt := 42) dX12_name_25 (by decide) (fun c25 => ?_) (fun c25 => ?_)
        · have c25 := c25
          refine g_ldc2 cX12_561 dX12_name_42 ?_
          exact g_lret rfl dX12_name_45 (⟨rfl, Or.inr ⟨fun ⟨j, hj, e, _⟩ => by subst e; exact nI_pos hj c25, rfl⟩⟩)
        · obtain ⟨j, hj, rfl⟩ := nI_of c25
          refine g_iload dX12_name_28 (List.mem_of_getElem? (i := 0) rfl) ?_
          refine g_if_ne (tgt := 46) dX12_name_30 (by decide) (fun c30 => ?_) (fun c30 => absurd c30 (by decide))
          refine g_iload dX12_name_46 (List.mem_of_getElem? (i := 0) rfl) ?_
          refine g_if_eq (tgt := 60) dX12_name_48 (by decide) (fun c48 => absurd c48 (by decide)) (fun c48 => ?_)
          refine g_aload_n dX12_name_51 rfl (List.mem_of_getElem? (i := 1) rfl) ?_
          refine g_get fX12_954 ha (v := .ref (n0 + 45)) (mFs_get (by decide) rfl) dX12_name_52 ?_
          refine g_iload_n dX12_name_55 rfl (List.mem_of_getElem? (i := 3) rfl) ?_
          have hsz1 := hsz k hk
          refine g_iald (t0 := 0) rfl hzz (vp_in_nI (by omega) (by decide)) dX12_name_56 ?_
          refine g_eqi (nI (sz k)) (by rw [nI_clamp (by omega)]; exact hsz1.1) ?_
          refine g_goto (tgt := 71) dX12_name_57 (by decide) ?_
          refine g_istore dX12_name_71 (by decide) rfl ?_
          refine g_lconst (v := 0) dX12_name_73 (by decide) ?_
          refine g_lstore dX12_name_74 (by decide) rfl ?_
          refine g_iconst (v := 0) dX12_name_76 (by decide) ?_
          refine g_istore dX12_name_77 (by decide) rfl ?_
          refine g_lv [1, 0, 4, 5, 6, 7, 3, 2] rfl ?_
          exact g_post (cm_name_lo hZ ha hst hj (by omega) hsz1.2 9 0 (by omega) (by omega)) (fun σ1 w h => ⟨h.1, Or.inl ⟨j, hj, rfl, Or.inl ⟨c2, k, hk, rfl, h.2⟩⟩⟩)
