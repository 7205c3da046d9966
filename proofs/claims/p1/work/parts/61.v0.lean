abbrev mJ1_canEncode_9a6ad : hM := (yJ1_canEncode_9a6ad, cJ1_canEncode_9a6ad, 1, (some (.boolean)))
theorem kJ1_canEncode_9a6ad : h_ml mJ1_canEncode_9a6ad 1 := ⟨h_t3 235 rfl rfl, h_t1 10 rfl rfl, ⟨by decide, by decide, by decide +kernel⟩, by decide⟩
theorem sJ1_canEncode_9a6ad : Cond.static mJ1_canEncode_9a6ad.1 ∈ lw_g := h_t3 234 rfl rfl
theorem dJ1_canEncode_9a6ad_0 : decode cJ1_canEncode_9a6ad 0 = .ok (.iload_n 0, 1) := by decide +kernel
theorem dJ1_canEncode_9a6ad_1 : decode cJ1_canEncode_9a6ad 1 = .ok (.ifCond .lt 14, 3) := by decide +kernel
theorem dJ1_canEncode_9a6ad_4 : decode cJ1_canEncode_9a6ad 4 = .ok (.iload_n 0, 1) := by decide +kernel
theorem dJ1_canEncode_9a6ad_5 : decode cJ1_canEncode_9a6ad 5 = .ok (.sipush 255, 3) := by decide +kernel
theorem dJ1_canEncode_9a6ad_8 : decode cJ1_canEncode_9a6ad 8 = .ok (.if_icmp .gt 7, 3) := by decide +kernel
theorem dJ1_canEncode_9a6ad_11 : decode cJ1_canEncode_9a6ad 11 = .ok (.iconst 1, 1) := by decide +kernel
theorem dJ1_canEncode_9a6ad_12 : decode cJ1_canEncode_9a6ad 12 = .ok (.goto 4, 3) := by decide +kernel
theorem dJ1_canEncode_9a6ad_15 : decode cJ1_canEncode_9a6ad 15 = .ok (.iconst 0, 1) := by decide +kernel
theorem dJ1_canEncode_9a6ad_16 : decode cJ1_canEncode_9a6ad 16 = .ok (.ireturn, 1) := by decide +kernel
abbrev mJ1_indexOfChar_4cfef : hM := (yJ1_indexOfChar_4cfef, cJ1_indexOfChar_4cfef, 6, (some (.int)))
theorem kJ1_indexOfChar_4cfef : h_ml mJ1_indexOfChar_4cfef 4 := ⟨h_t4 2 rfl rfl, h_t1 10 rfl rfl, ⟨by decide, by decide, by decide +kernel⟩, by decide⟩
theorem sJ1_indexOfChar_4cfef : Cond.static mJ1_indexOfChar_4cfef.1 ∈ lw_g := h_t4 1 rfl rfl
theorem dJ1_indexOfChar_4cfef_0 : decode cJ1_indexOfChar_4cfef 0 = .ok (.iload_n 1, 1) := by decide +kernel
theorem dJ1_indexOfChar_4cfef_1 : decode cJ1_indexOfChar_4cfef 1 = .ok (.i2b, 1) := by decide +kernel
theorem dJ1_indexOfChar_4cfef_2 : decode cJ1_indexOfChar_4cfef 2 = .ok (.istore 4, 2) := by decide +kernel
theorem dJ1_indexOfChar_4cfef_4 : decode cJ1_indexOfChar_4cfef 4 = .ok (.iload_n 2, 1) := by decide +kernel
theorem dJ1_indexOfChar_4cfef_5 : decode cJ1_indexOfChar_4cfef 5 = .ok (.istore 5, 2) := by decide +kernel
theorem dJ1_indexOfChar_4cfef_7 : decode cJ1_indexOfChar_4cfef 7 = .ok (.iload 5, 2) := by decide +kernel
theorem dJ1_indexOfChar_4cfef_9 : decode cJ1_indexOfChar_4cfef 9 = .ok (.iload_n 3, 1) := by decide +kernel
theorem dJ1_indexOfChar_4cfef_10 : decode cJ1_indexOfChar_4cfef 10 = .ok (.if_icmp .ge 21, 3) := by decide +kernel
theorem dJ1_indexOfChar_4cfef_13 : decode cJ1_indexOfChar_4cfef 13 = .ok (.aload_n 0, 1) := by decide +kernel
theorem dJ1_indexOfChar_4cfef_14 : decode cJ1_indexOfChar_4cfef 14 = .ok (.iload 5, 2) := by decide +kernel
theorem dJ1_indexOfChar_4cfef_16 : decode cJ1_indexOfChar_4cfef 16 = .ok (.baload, 1) := by decide +kernel
theorem dJ1_indexOfChar_4cfef_17 : decode cJ1_indexOfChar_4cfef 17 = .ok (.iload 4, 2) := by decide +kernel
theorem dJ1_indexOfChar_4cfef_19 : decode cJ1_indexOfChar_4cfef 19 = .ok (.if_icmp .ne 6, 3) := by decide +kernel
theorem dJ1_indexOfChar_4cfef_22 : decode cJ1_indexOfChar_4cfef 22 = .ok (.iload 5, 2) := by decide +kernel
theorem dJ1_indexOfChar_4cfef_24 : decode cJ1_indexOfChar_4cfef 24 = .ok (.ireturn, 1) := by decide +kernel
theorem dJ1_indexOfChar_4cfef_25 : decode cJ1_indexOfChar_4cfef 25 = .ok (.iinc 5 1, 3) := by decide +kernel
theorem dJ1_indexOfChar_4cfef_28 : decode cJ1_indexOfChar_4cfef 28 = .ok (.goto (-21), 3) := by decide +kernel
theorem dJ1_indexOfChar_4cfef_31 : decode cJ1_indexOfChar_4cfef 31 = .ok (.iconst (-1), 1) := by decide +kernel
theorem dJ1_indexOfChar_4cfef_32 : decode cJ1_indexOfChar_4cfef 32 = .ok (.ireturn, 1) := by decide +kernel
abbrev mJ1_indexOf_4cfef : hM := (yJ1_indexOf_4cfef, cJ1_indexOf_4cfef, 4, (some (.int)))
theorem kJ1_indexOf_4cfef : h_ml mJ1_indexOf_4cfef 4 := ⟨h_t3 232 rfl rfl, h_t1 10 rfl rfl, ⟨by decide, by decide, by decide +kernel⟩, by decide⟩
theorem sJ1_indexOf_4cfef : Cond.static mJ1_indexOf_4cfef.1 ∈ lw_g := h_t3 231 rfl rfl
theorem dJ1_indexOf_4cfef_0 : decode cJ1_indexOf_4cfef 0 = .ok (.iload_n 1, 1) := by decide +kernel
theorem dJ1_indexOf_4cfef_1 : decode cJ1_indexOf_4cfef 1 = .ok (.invokestatic 88, 3) := by decide +kernel
theorem dJ1_indexOf_4cfef_4 : decode cJ1_indexOf_4cfef 4 = .ok (.ifCond .ne 5, 3) := by decide +kernel
theorem dJ1_indexOf_4cfef_7 : decode cJ1_indexOf_4cfef 7 = .ok (.iconst (-1), 1) := by decide +kernel
theorem dJ1_indexOf_4cfef_8 : decode cJ1_indexOf_4cfef 8 = .ok (.ireturn, 1) := by decide +kernel
theorem dJ1_indexOf_4cfef_9 : decode cJ1_indexOf_4cfef 9 = .ok (.iload_n 2, 1) := by decide +kernel
theorem dJ1_indexOf_4cfef_10 : decode cJ1_indexOf_4cfef 10 = .ok (.iconst 0, 1) := by decide +kernel
theorem dJ1_indexOf_4cfef_11 : decode cJ1_indexOf_4cfef 11 = .ok (.invokestatic 92, 3) := by decide +kernel
theorem dJ1_indexOf_4cfef_14 : decode cJ1_indexOf_4cfef 14 = .ok (.istore_n 2, 1) := by decide +kernel
theorem dJ1_indexOf_4cfef_15 : decode cJ1_indexOf_4cfef 15 = .ok (.iload_n 3, 1) := by decide +kernel
theorem dJ1_indexOf_4cfef_16 : decode cJ1_indexOf_4cfef 16 = .ok (.aload_n 0, 1) := by decide +kernel
theorem dJ1_indexOf_4cfef_17 : decode cJ1_indexOf_4cfef 17 = .ok (.arraylength, 1) := by decide +kernel
theorem dJ1_indexOf_4cfef_18 : decode cJ1_indexOf_4cfef 18 = .ok (.invokestatic 38, 3) := by decide +kernel
theorem dJ1_indexOf_4cfef_21 : decode cJ1_indexOf_4cfef 21 = .ok (.istore_n 3, 1) := by decide +kernel
theorem dJ1_indexOf_4cfef_22 : decode cJ1_indexOf_4cfef 22 = .ok (.iload_n 2, 1) := by decide +kernel
theorem dJ1_indexOf_4cfef_23 : decode cJ1_indexOf_4cfef 23 = .ok (.iload_n 3, 1) := by decide +kernel
theorem dJ1_indexOf_4cfef_24 : decode cJ1_indexOf_4cfef 24 = .ok (.if_icmp .lt 5, 3) := by decide +kernel
theorem dJ1_indexOf_4cfef_27 : decode cJ1_indexOf_4cfef 27 = .ok (.iconst (-1), 1) := by decide +kernel
theorem dJ1_indexOf_4cfef_28 : decode cJ1_indexOf_4cfef 28 = .ok (.ireturn, 1) := by decide +kernel
theorem dJ1_indexOf_4cfef_29 : decode cJ1_indexOf_4cfef 29 = .ok (.aload_n 0, 1) := by decide +kernel
theorem dJ1_indexOf_4cfef_30 : decode cJ1_indexOf_4cfef 30 = .ok (.iload_n 1, 1) := by decide +kernel
theorem dJ1_indexOf_4cfef_31 : decode cJ1_indexOf_4cfef 31 = .ok (.iload_n 2, 1) := by decide +kernel
theorem dJ1_indexOf_4cfef_32 : decode cJ1_indexOf_4cfef 32 = .ok (.iload_n 3, 1) := by decide +kernel
theorem dJ1_indexOf_4cfef_33 : decode cJ1_indexOf_4cfef 33 = .ok (.invokestatic 95, 3) := by decide +kernel
theorem dJ1_indexOf_4cfef_36 : decode cJ1_indexOf_4cfef 36 = .ok (.ireturn, 1) := by decide +kernel
abbrev mJ0_indexOf_7cf53 : hM := (yJ0_indexOf_7cf53, cJ0_indexOf_7cf53, 3, (some (.int)))
theorem kJ0_indexOf_7cf53 : h_ml mJ0_indexOf_7cf53 2 := ⟨h_t3 228 rfl rfl, h_t1 9 rfl rfl, ⟨by decide, by decide, by decide +kernel⟩, by decide⟩
theorem sJ0_indexOf_7cf53 : Cond.instanceMethod mJ0_indexOf_7cf53.1 ∈ lw_g ∧ Cond.selects mJ0_indexOf_7cf53.1.cls mJ0_indexOf_7cf53.1 mJ0_indexOf_7cf53.1 ∈ lw_g := ⟨h_t3 226 rfl rfl, h_t3 227 rfl rfl⟩
theorem dJ0_indexOf_7cf53_0 : decode cJ0_indexOf_7cf53 0 = .ok (.aload_n 0, 1) := by decide +kernel
theorem dJ0_indexOf_7cf53_1 : decode cJ0_indexOf_7cf53 1 = .ok (.invokevirtual 492, 3) := by decide +kernel
theorem dJ0_indexOf_7cf53_4 : decode cJ0_indexOf_7cf53 4 = .ok (.ifCond .eq 19, 3) := by decide +kernel
theorem dJ0_indexOf_7cf53_7 : decode cJ0_indexOf_7cf53 7 = .ok (.aload_n 0, 1) := by decide +kernel
theorem dJ0_indexOf_7cf53_8 : decode cJ0_indexOf_7cf53 8 = .ok (.getfield 9, 3) := by decide +kernel
theorem dJ0_indexOf_7cf53_11 : decode cJ0_indexOf_7cf53 11 = .ok (.iload_n 1, 1) := by decide +kernel
theorem dJ0_indexOf_7cf53_12 : decode cJ0_indexOf_7cf53 12 = .ok (.iload_n 2, 1) := by decide +kernel
theorem dJ0_indexOf_7cf53_13 : decode cJ0_indexOf_7cf53 13 = .ok (.aload_n 0, 1) := by decide +kernel
theorem dJ0_indexOf_7cf53_14 : decode cJ0_indexOf_7cf53 14 = .ok (.invokevirtual 505, 3) := by decide +kernel
theorem dJ0_indexOf_7cf53_17 : decode cJ0_indexOf_7cf53 17 = .ok (.invokestatic 637, 3) := by decide +kernel
theorem dJ0_indexOf_7cf53_20 : decode cJ0_indexOf_7cf53 20 = .ok (.goto 16, 3) := by decide +kernel
theorem dJ0_indexOf_7cf53_23 : decode cJ0_indexOf_7cf53 23 = .ok (.aload_n 0, 1) := by decide +kernel
theorem dJ0_indexOf_7cf53_24 : decode cJ0_indexOf_7cf53 24 = .ok (.getfield 9, 3) := by decide +kernel
theorem dJ0_indexOf_7cf53_27 : decode cJ0_indexOf_7cf53 27 = .ok (.iload_n 1, 1) := by decide +kernel
theorem dJ0_indexOf_7cf53_28 : decode cJ0_indexOf_7cf53 28 = .ok (.iload_n 2, 1) := by decide +kernel
theorem dJ0_indexOf_7cf53_29 : decode cJ0_indexOf_7cf53 29 = .ok (.aload_n 0, 1) := by decide +kernel
theorem dJ0_indexOf_7cf53_30 : decode cJ0_indexOf_7cf53 30 = .ok (.invokevirtual 505, 3) := by decide +kernel
theorem dJ0_indexOf_7cf53_33 : decode cJ0_indexOf_7cf53 33 = .ok (.invokestatic 640, 3) := by decide +kernel
theorem dJ0_indexOf_7cf53_36 : decode cJ0_indexOf_7cf53 36 = .ok (.ireturn, 1) := by decide +kernel
abbrev mJ0_indexOf_0f7a4 : hM := (yJ0_indexOf_0f7a4, cJ0_indexOf_0f7a4, 2, (some (.int)))
theorem kJ0_indexOf_0f7a4 : h_ml mJ0_indexOf_0f7a4 1 := ⟨h_t3 224 rfl rfl, h_t1 9 rfl rfl, ⟨by decide, by decide, by decide +kernel⟩, by decide⟩
theorem sJ0_indexOf_0f7a4 : Cond.instanceMethod mJ0_indexOf_0f7a4.1 ∈ lw_g ∧ Cond.selects mJ0_indexOf_0f7a4.1.cls mJ0_indexOf_0f7a4.1 mJ0_indexOf_0f7a4.1 ∈ lw_g := ⟨h_t3 222 rfl rfl, h_t3 223 rfl rfl⟩
theorem dJ0_indexOf_0f7a4_0 : decode cJ0_indexOf_0f7a4 0 = .ok (.aload_n 0, 1) := by decide +kernel
theorem dJ0_indexOf_0f7a4_1 : decode cJ0_indexOf_0f7a4 1 = .ok (.iload_n 1, 1) := by decide +kernel
theorem dJ0_indexOf_0f7a4_2 : decode cJ0_indexOf_0f7a4 2 = .ok (.iconst 0, 1) := by decide +kernel
theorem dJ0_indexOf_0f7a4_3 : decode cJ0_indexOf_0f7a4 3 = .ok (.invokevirtual 633, 3) := by decide +kernel
theorem dJ0_indexOf_0f7a4_6 : decode cJ0_indexOf_0f7a4 6 = .ok (.ireturn, 1) := by decide +kernel
theorem lJ1_can : Cond.methodLink RJ1 88 mJ1_canEncode_9a6ad.1 ∈ lw_g := h_t3 233 rfl rfl
theorem lJ1_mx : Cond.methodLink RJ1 92 Lib.Math.max.name ∈ lw_g := h_t3 236 rfl rfl
theorem lJ1_mn : Cond.methodLink RJ1 38 Lib.Math.min.name ∈ lw_g := h_t3 239 rfl rfl
theorem lJ1_idxC : Cond.methodLink RJ1 95 mJ1_indexOfChar_4cfef.1 ∈ lw_g := h_t4 0 rfl rfl
theorem lJ0_len : Cond.methodLink RJ0 505 mJ0_length_8abf5.1 ∈ lw_g := h_t3 229 rfl rfl
theorem lJ0_idx1 : Cond.methodLink RJ0 637 mJ1_indexOf_4cfef.1 ∈ lw_g := h_t3 230 rfl rfl
theorem lJ0_idx2 : Cond.methodLink RJ0 633 mJ0_indexOf_7cf53.1 ∈ lw_g := h_t3 225 rfl rfl
def fsX1 : List Value := [.null, .null, .int 0, .int 0, .int 0, .int 0]
section HV0
variable {l : Launch} {D : va_G} {ty : List (ClassId × FieldType)} {B : Nat} {Z : State → Heap → Prop} {M : hM} {d : Nat} {σ0 σ : hS} {P : hS → Option Value → Prop} {pc : Nat} {lv : List (Nat × Value)} {st : List Value}
theorem hAcn : Cond.native arraycopyName ∈ lw_g := h_t4 86 rfl rfl
theorem hAcs : Cond.static arraycopyName ∈ lw_g := h_t4 85 rfl rfl
theorem hAci : Cond.initialized "java/lang/System" ∈ lw_g := h_t1 19 rfl rfl
theorem hAcw : nativeFrameWords "java/lang/System" "arraycopy" 5 ≤ 40 := by decide +kernel
/-- System.arraycopy between two rows of one primitive type -/
theorem g_copy {ix t0 a0 a n0 n1 : Nat} {c0 : ClassId} {f g : Nat → Int32} {et : FieldType} {sp dp n : Int32} (ht : ty[t0]? = some (c0, et)) (hprim : refKind et = false) (ha0 : σ.1 a0 = some (.inl (c0, n0, .inl f))) (ha1 : σ.1 a = some (.inl (c0, n1, .inl g))) (h1 : ¬ sp < 0) (h2 : ¬ dp < 0) (h3 : ¬ n < 0) (h4 : sp.toNatClampNeg + n.toNatClampNeg ≤ n0) (h5 : dp.toNatClampNeg + n.toNatClampNeg ≤ n1) (hfit : ∀ i, i < n.toNatClampNeg → fits et (.int (f (sp.toNatClampNeg + i))) = true) (hl : Cond.methodLink M.1.cls ix arraycopyName ∈ lw_g) (hd1 : 1 ≤ d) (hcat : (st.map fun v => v.category).sum ≤ 8) (hd : decode M.2.1 pc = .ok (.invokestatic ix, 3)) (k9 : G l D ty B Z M d σ0 P (h_set σ a (.inl (c0, n1, .inl (va_cpy f g sp.toNatClampNeg dp.toNatClampNeg n.toNatClampNeg)))) (pc + 3) lv st) : G l D ty B Z M d σ0 P σ pc lv (.int n :: .int dp :: .ref a :: .int sp :: .ref a0 :: st) := by
  intro p e s m args below meth c C9 H locs ls hR hS h39 hl9
  have nn : ∀ z : Int32, ¬ z < 0 → z.toInt = (z.toNatClampNeg : Int) := by
    intro z hz
    have hz0 : (0 : Int) ≤ z.toInt := by
      have := Int32.not_lt.mp hz
      simpa using Int32.le_iff_toInt_le.mp this
    show z.toInt = ((z.toInt.toNat : Nat) : Int)
    omega
  obtain ⟨hBa, hc1⟩ := hR.2.2.2.2.2.2.2 a _ ha1
  have hc0 : H[a0]? = some (vp_cell c0 (n0, .inl f)) := (hR.2.2.2.2.2.2.2 a0 _ ha0).2
  have hc1 : H[a]? = some (vp_cell c0 (n1, .inl g)) := hc1
  have hml : c.maxLocals = ls.size := by rw [C9.2.2.1]; exact hl9.1.symm
  have hts := C9.2.2.2.2.2.1
  have hw40 := hAcw
  intro T hT X
  obtain ⟨-, k0, hk0, cm0, hkk0⟩ := (hR.1.2 t0 _ ht).1 n0 (fun j => .int (f j))
  obtain ⟨-, k1, hk1, cm1, hkk1⟩ := (hR.1.2 t0 _ ht).1 n1 (fun j => .int (g j))
  obtain ⟨vm', X', step⟩ := X.arraycopy C9.1 C9.2.2.2.2.1 (hts _ hl) (hts _ hAcn) (hts _ hAcs) (hts _ hAci) (src := a0) (dst := a) (cs := vp_cell c0 (n0, .inl f)) (cd := vp_cell c0 (n1, .inl g)) (srcPos := sp) (destPos := dp) (n := n) (by rw [hT]; exact hc0) (by rw [hT]; exact hc1)
    (fun _ h => by cases h) (fun _ h => by cases h) (fun h => by cases h) (fun h => by cases h) hk0 hk1 hkk0 hkk1 (by simp [hprim]) h1 h2 h3
    (by rw [nn sp h1, nn n h3]; show ¬ _ > ((arrV c0 n0 (fun j => .int (f j))).slots.size : Int); rw [arrV_size]; omega)
    (by rw [nn dp h2, nn n h3]; show ¬ _ > ((arrV c0 n1 (fun j => .int (g j))).slots.size : Int); rw [arrV_size]; omega)
    (fun vm₁ _ i hi => by
      have e : (vp_cell c0 (n0, .inl f)).slots.getD (sp.toNatClampNeg + i) .null = .int (f (sp.toNatClampNeg + i)) := by
        show (arrV c0 n0 (fun j => .int (f j))).slots.getD _ _ = _
        rw [Array.getD_eq_getD_getElem?, arrV_read _ _ (by omega)]
        rfl
      refine ⟨?_, ?_⟩
      · rw [e]
        exact hfit i hi
      · rw [e]
        exact trivial)
    (g := F0 m pc ls (.int n :: .int dp :: .ref a :: .int sp :: .ref a0 :: st)) rfl (by rw [hml]) (rest := st) rfl (by rw [C9.2.1]; exact hd) (by show 1 ≤ d; exact hd1) (by show 2 * 0 + _ + _ ≤ 64 * d; omega)
  have e1 : copied (vp_cell c0 (n0, .inl f)) (vp_cell c0 (n1, .inl g)) sp dp n = vp_cell c0 (n1, .inl (va_cpy f g sp.toNatClampNeg dp.toNatClampNeg n.toNatClampNeg)) := va_copied (fun z => .int z) c0 c0 f g h4
  rw [e1] at X' step
  have hlt : a < H.size := (Array.getElem?_eq_some_iff.mp hc1).1
  have hheap : ((T.setVm vm').setCell a (vp_cell c0 (n1, .inl (va_cpy f g sp.toNatClampNeg dp.toNatClampNeg n.toNatClampNeg)))).heap = H.setIfInBounds a (vp_cell c0 (n1, .inl (va_cpy f g sp.toNatClampNeg dp.toNatClampNeg n.toNatClampNeg))) := by rw [← hT]; rfl
  have oq : ∀ q : Nat, q ≠ a → (H.setIfInBounds a (vp_cell c0 (n1, .inl (va_cpy f g sp.toNatClampNeg dp.toNatClampNeg n.toNatClampNeg))))[q]? = H[q]? := fun q hq => by simp [Array.getElem?_setIfInBounds, Ne.symm hq]
  have he : (H.setIfInBounds a (vp_cell c0 (n1, .inl (va_cpy f g sp.toNatClampNeg dp.toNatClampNeg n.toNatClampNeg))))[a]? = some (vp_cell c0 (n1, .inl (va_cpy f g sp.toNatClampNeg dp.toNatClampNeg n.toNatClampNeg))) := by simp [Array.getElem?_setIfInBounds, hlt]
  obtain ⟨t, a1, b1⟩ := k9 p e s m args below meth c C9 (H.setIfInBounds a (vp_cell c0 (n1, .inl (va_cpy f g sp.toNatClampNeg dp.toNatClampNeg n.toNatClampNeg)))) _ ls (h_up C9.2.2.2.2.2.2.2.2.1 hR hBa (by simp) oq (by rw [he, hc1]; simp only [Option.map_some, h_csz]) he) ⟨by simp; exact hS.1, fun q g1 g2 => by
      rw [oq q (fun e => g2 (by rw [e]; exact hBa))]
      exact hS.2.1 q g1 g2, fun q hq => by
      rcases List.mem_append.mp hq with h | h
      · exact hS.2.2 q h
      · obtain ⟨z, -, hz⟩ := List.mem_map.mp h
        rw [← hz]
        exact hBa⟩ h39 hl9 _ hheap X'
  exact ⟨t, step t a1, b1⟩
theorem hCls : Cond.sameMethod "[B" "java/lang/Object" "clone" "()Ljava/lang/Object;" ∈ lw_g := h_t6 139 rfl rfl
theorem hCln : Cond.native ⟨"java/lang/Object", "clone", "()Ljava/lang/Object;"⟩ ∈ lw_g := h_t6 140 rfl rfl
theorem hCli : Cond.instanceMethod ⟨"java/lang/Object", "clone", "()Ljava/lang/Object;"⟩ ∈ lw_g := h_t6 141 rfl rfl
theorem hClx : Cond.selects "[B" ⟨"[B", "clone", "()Ljava/lang/Object;"⟩ ⟨"java/lang/Object", "clone", "()Ljava/lang/Object;"⟩ ∈ lw_g := h_t6 142 rfl rfl
/-- a row of bytes is cloned -/
theorem g_clone {ix t0 a N : Nat} {cA : ClassId} {f : Nat → Int32} (ht : ty[t0]? = some (cA, .byte)) (ha : σ.1 a = some (.inl (cA, N, .inl f))) (hfit : ∀ i, i < N → fits .byte (.int (f i)) = true) (hcl : ∀ (U : State) (H : Heap), Z U H → va_Nw (.castable "[B" "java/lang/Cloneable") U) (hl : Cond.methodLink M.1.cls ix ⟨"[B", "clone", "()Ljava/lang/Object;"⟩ ∈ lw_g) (hd1 : 1 ≤ d) (hcat : (st.map fun v => v.category).sum ≤ 8) (hn : σ.2.1 + 1 ≤ B + h_CN) (hm : σ.2.2 + N ≤ h_CK) (hd : decode M.2.1 pc = .ok (.invokevirtual ix, 3)) (k9 : G l D ty B Z M d σ0 P (h_new σ (.inl (cA, N, .inl f)) N) (pc + 3) lv (.ref σ.2.1 :: st)) : G l D ty B Z M d σ0 P σ pc lv (.ref a :: st) := by
  intro p e s m args below meth c C9 H locs ls hR hS h39 hl9
  have hts := C9.2.2.2.2.2.1
  have hR0 := C9.2.2.2.2.2.2.2.2.2
  have e0 : s.heap.size = σ0.2.1 := hR0.2.2.1
  have e9 : H.size = σ.2.1 := hR.2.2.1
  have e8 := hS.1
  have hml : c.maxLocals = ls.size := by rw [C9.2.2.1]; exact hl9.1.symm
  have hc : H[a]? = some (vp_cell cA (N, .inl f)) := (hR.2.2.2.2.2.2.2 a _ ha).2
  have hsz : (vp_cell cA (N, .inl f)).slots.size = N := h_csz _ _ _
  have hnm : s.vm.findClass "[B" = some cA := (hR.1.2 t0 _ ht).2
  obtain ⟨c0, t0', f1, f2, f3⟩ := Cond.castable_spec (va_Nw.use (A := args) rfl (hcl s H hR.2.1))
  cases hnm.symm.trans f1
  intro T hT X
  have hcellT : T.heap[a]? = some (vp_cell cA (N, .inl f)) := by rw [hT]; exact hc
  obtain ⟨-, kA, hkA, comp, hkind⟩ := State.isArrayOf_alike X.warmed.alike ((hR.1.2 t0 _ ht).1 0 (fun _ => .null))
  obtain ⟨-, kS, hkS, compS, hkindS⟩ := (hR.1.2 t0 _ ht).1 0 (fun _ => .null)
  obtain ⟨vm', X', stp⟩ := X.cloneArray C9.1 C9.2.2.2.2.1 (hts _ hl) (hts _ hCls) (hts _ hCln) (hts _ hCli) (hts _ hClx) (a := a) (cell := vp_cell cA (N, .inl f)) hcellT (fun k h => by cases h) (fun h => by cases h) hnm f2 f3
    (fun i v hv => by
      have hk' : T.vm.classes[cA]? = some kA := hkA
      have hv' : fits .byte v = true := by
        have hv2 : (arrV cA N (fun j => .int (f j))).slots[i]? = some v := hv
        by_cases hi : i < N
        · rw [arrV_read _ _ hi] at hv2
          cases hv2
          exact hfit i hi
        · rw [Array.getElem?_eq_none (by rw [arrV_size]; omega)] at hv2
          cases hv2
      simpa [State.fitsSlot, State.slotType?, hk', hkind, show (vp_cell cA (N, .inl f)).cls = cA from rfl] using hv')
    (g := F0 m pc ls (.ref a :: st)) rfl (by rw [hml]) rfl (by rw [C9.2.1]; exact hd) (by show 1 ≤ d; exact hd1) (by show 2 * 0 + _ + 14 ≤ 64 * d; omega) (by show _ ≤ B + h_CN - σ0.2.1; omega) (by rw [hsz]; show _ ≤ h_CK - σ0.2.2; omega) (hloader := Vm.clonesLoader_of_array hkS hkindS)
  rw [hsz] at X'
  have hcellE : ({ cls := (vp_cell cA (N, .inl f)).cls, slots := (vp_cell cA (N, .inl f)).slots } : Cell) = vp_cell cA (N, .inl f) := rfl
  rw [hcellE] at X'
  generalize hH1 : H.push (vp_cell cA (N, .inl f)) = H1
  have z1 : H1.size = H.size + 1 := by rw [← hH1, Array.size_push]
  have e1 : H1[H.size]? = some (vp_cell cA (N, .inl f)) := by rw [← hH1, Array.getElem?_push_size]
  have o1 : ∀ q : Nat, q < H.size → H1[q]? = H[q]? := fun q hq => by rw [← hH1, Array.getElem?_push, if_neg (Nat.ne_of_lt hq)]
  have hw := k9 p e s m args below meth c C9 H1 locs ls (h_mk C9.2.2.2.2.2.2.2.2.1 hR z1 o1 e1 hsz e1 hn hm) (h_S2 hS z1 o1) (by show _ ≤ σ.2.2 + N; omega) hl9
  have hw2 := W.cs (cells := (σ.2.1 - σ0.2.1) + 1) (slots := (σ.2.2 - σ0.2.2) + N) (by show _ = σ.2.1 + 1 - σ0.2.1; omega) (by show _ = σ.2.2 + N - σ0.2.2; omega) hw
  obtain ⟨t, b1, b2⟩ := hw2 ((T.setVm vm').pushCell (vp_cell cA (N, .inl f))) (by rw [← hH1, ← hT]; rfl) X'
  refine ⟨t, stp t ?_, b2⟩
  rw [hcellE, hT, e9]
  exact b1
theorem g_castB {ix t0 a : Nat} {cA : ClassId} {x : vp_A} (ht : ty[t0]? = some (cA, .byte)) (ha : σ.1 a = some (.inl (cA, x))) (hl : Cond.classLink M.1.cls ix "[B" ∈ lw_g) (hd : decode M.2.1 pc = .ok (.checkcast ix, 3)) (k9 : G l D ty B Z M d σ0 P σ (pc + 3) lv (.ref a :: st)) : G l D ty B Z M d σ0 P σ pc lv (.ref a :: st) :=
  fun p e s m args below meth c C9 H locs ls hR hS h3 hl9 => va_castA (D := D) (cl := vwCl) C9.1 C9.2.1 C9.2.2.2.2.1 (C9.2.2.2.2.2.1 _ hl) (h_P1 (hR.2.2.2.2.2.2.2 a _ ha).2) 0 rfl (hR.1.2 t0 _ ht).2 hd (k9 p e s m args below meth c C9 H locs ls hR hS h3 hl9)
end HV0
theorem uu_oe {β : Type} {e : Option Nat} {a : Option β} {f : Nat → Option β} {r : β} (h : e.elim a f = some r) : (e = none ∧ a = some r) ∨ ∃ j, e = some j ∧ f j = some r := by
  cases e with
  | none => exact Or.inl ⟨rfl, h⟩
  | some j => exact Or.inr ⟨j, rfl, h⟩
/-- a whole row is another -/
def wFs (s : uS) (k : Nat) (g : Nat → Int32) : uS := (s.c, s.I, s.R, fun a => if a = k then g else s.F a, s.L, s.P, s.n, s.m)
/-- bytes are copied from one row to another -/
def acpy (s : uS) (k0 : Nat) (sp : Int32) (k1 : Nat) (dp n : Int32) : Option uS := if uIs s k0 21 ∧ uIs s k1 21 ∧ ¬ sp < 0 ∧ ¬ dp < 0 ∧ ¬ n < 0 ∧ sp.toNatClampNeg + n.toNatClampNeg ≤ (uCl s k0).2 ∧ dp.toNatClampNeg + n.toNatClampNeg ≤ (uCl s k1).2 then some (wFs s k1 (va_cpy (s.F k0) (s.F k1) sp.toNatClampNeg dp.toNatClampNeg n.toNatClampNeg)) else none
/-- a row of n bytes more; a copy of a row; an entry more -/
def nbuf (s : uS) (x : Int32) : Option uS := if ¬ x < 0 ∧ s.n + 1 ≤ 600000 ∧ s.m + x.toNatClampNeg ≤ 7302250 then some (nw s 21 x.toNatClampNeg x.toNatClampNeg) else none
def nclo (s : uS) (k : Nat) : Option uS := if uIs s k 21 ∧ s.n + 1 ≤ 600000 ∧ s.m + (uCl s k).2 ≤ 7302250 then some (wFs (nw s 21 (uCl s k).2 (uCl s k).2) s.n (s.F k)) else none
def nent (s : uS) : Option uS := if s.n + 1 ≤ 600000 ∧ s.m + 6 ≤ 7302250 then some (nw s 1 0 6) else none
/-- where a byte stands first in a text constant -/
def sIx (c : Int32) : List Nat → Nat → Int32
  | [], _ => -1
  | b :: r, i => if nI b = c then nI i else sIx c r (i + 1)
def stidx (w : List Nat) (x : Int32) : Int32 := if x < 0 ∨ 255 < x then -1 else sIx x.toInt8.toInt32 w 0
theorem uSt.pFs {A : Nat → ClassId} {B : Nat} {σ : hS} {s : uS} {k t : Nat} {g : Nat → Int32} (h : uSt A B σ s) (hk : uIs s k t) (h1 : 20 ≤ t) (h2 : t < 23) (hv : t = 21 → ∀ i : Nat, fits .byte (.int (g i)) = true) : uSt A B (h_set σ (B + k) (.inl (A (t - 20), (uCl s k).2, .inl g))) (wFs s k g) := by
  have hF : ∀ j : Nat, (wFs s k g).F j = if j = k then g else s.F j := fun j => rfl
  refine h.up hk.1 rfl rfl (fun a b hab => ?_) ?_ (fun j hj => ?_)
  · have hab : (uCl s a).1 = 21 := hab
    rw [hF a]
    by_cases e : a = k
    · rw [if_pos e]
      exact hv (by rw [← hk.2, ← e]; exact hab) b
    · rw [if_neg e]
      exact h.2.2.2.2 a b hab
  · unfold ucell
    rw [show uCl (wFs s k g) k = uCl s k from rfl, hk.2, if_neg (Nat.not_lt.mpr h1), if_pos h2, hF k, if_pos rfl]
  · unfold ucell
    rw [show uCl (wFs s k g) j = uCl s j from rfl, hF j, if_neg hj]
    rfl
theorem uCl_nw {s : uS} {t N sl k : Nat} (h : k ≠ s.n) : uCl (nw s t N sl) k = uCl s k := by
  unfold uCl
  by_cases hk : k < 1171
  · rw [if_pos hk, if_pos hk]
  · rw [if_neg hk, if_neg hk]
    exact if_neg h
theorem uCl_nn {s : uS} {t N sl : Nat} (h : 1171 ≤ s.n) : uCl (nw s t N sl) s.n = (t, N) := by
  unfold uCl
  rw [if_neg (Nat.not_lt.mpr h)]
  exact if_pos rfl
theorem uSt.pN {A : Nat → ClassId} {B : Nat} {σ : hS} {s : uS} {t N sl : Nat} {e : va_E} (h : uSt A B σ s) (he : e = ucell A B (nw s t N sl) s.n) : uSt A B (h_new σ e sl) (nw s t N sl) := by
  refine ⟨by show σ.2.1 + 1 = B + (s.n + 1); rw [h.1]; rfl, by show σ.2.2 + sl = s.m + sl; rw [h.2.1], by show 1171 ≤ s.n + 1; have := h.2.2.1; omega, fun k hk => ?_, fun a b hab => ?_⟩
  · have hk : k < s.n + 1 := hk
    by_cases hkn : k = s.n
    · subst hkn
      rw [← h.1, h_ne, he]
    · rw [h_nn (by rw [h.1]; exact fun e => hkn (Nat.add_left_cancel e)) (h.2.2.2.1 k (by omega))]
      congr 1
      unfold ucell
      rw [uCl_nw hkn]
      have q1 : (nw s t N sl).F k = s.F k := by funext b; exact if_neg hkn
      have q2 : (nw s t N sl).L k = s.L k := by funext b; exact if_neg hkn
      have q3 : uP (nw s t N sl) k = uP s k := by
        funext b
        unfold uP
        rw [uCl_nw hkn, show (nw s t N sl).P k b = s.P k b from if_neg hkn]
      have q4 : ∀ c : Nat, ufs A B (nw s t N sl) k c = ufs A B s k c := fun c => List.map_congr_left (fun f _ => by
        unfold uv
        rw [show (nw s t N sl).I k f = s.I k f from if_neg hkn, show (nw s t N sl).R k f = s.R k f from if_neg hkn])
      rw [q1, q2, q3, q4]
  · by_cases ha : a = s.n
    · rw [show (nw s t N sl).F a b = 0 from if_pos ha]
      decide
    · rw [uCl_nw ha] at hab
      rw [show (nw s t N sl).F a b = s.F a b from if_neg ha]
      exact h.2.2.2.2 a b hab
/-- what is given besides: the empty label, and that rows of bytes can be cloned -/
def uX (A : Nat → ClassId) (B : Nat) (Z : State → Heap → Prop) : Prop := (∀ (U : State) (H : Heap), Z U H → va_Z "SortedMail$Entry" "NO_LABEL" "[B" (.ref (A 100)) (fun q : Nat => B ≤ q) U H) ∧ (∀ (U : State) (H : Heap), Z U H → va_Nw (.castable "[B" "java/lang/Cloneable") U)
section HV
variable {l : Launch} {D : va_G} {A : Nat → ClassId} {B : Nat} {Z : State → Heap → Prop} {M : hM} {d : Nat} {r : uS × Option Value} {s : uS} {pc : Nat} {lv : List (Nat × Value)} {st : List Value}
theorem uu_copy {ix k0 k1 : Nat} {sp dp n : Int32} {s1 : uS} (h : acpy s k0 sp k1 dp n = some s1) (hl : Cond.methodLink M.1.cls ix arraycopyName ∈ lw_g) (hd1 : 1 ≤ d) (hcat : (st.map fun v => v.category).sum ≤ 8) (hd : decode M.2.1 pc = .ok (.invokestatic ix, 3)) (k9 : GU l D A B Z M d r s1 (pc + 3) lv st) : GU l D A B Z M d r s pc lv (.int n :: .int dp :: .ref (B + k1) :: .int sp :: .ref (B + k0) :: st) := fun σ0 σ hs => by
  obtain ⟨⟨h1, h2, h3, h4, h5, h6, h7⟩, h8⟩ := uu_grd h
  cases h8
  refine g_copy (t0 := 1) (et := .byte) rfl rfl (hs.arr h1 (by decide) (by decide)) (hs.arr h2 (by decide) (by decide)) h3 h4 h5 h6 h7 (fun i _ => hs.2.2.2.2 _ _ h1.2) hl hd1 hcat hd (k9 σ0 _ (hs.pFs h2 (by decide) (by decide) (fun _ i => ?_)))
  unfold va_cpy
  by_cases c : dp.toNatClampNeg ≤ i ∧ i < dp.toNatClampNeg + n.toNatClampNeg
  · rw [if_pos c]; exact hs.2.2.2.2 _ _ h1.2
  · rw [if_neg c]; exact hs.2.2.2.2 _ _ h2.2
theorem uu_newb {x : Int32} {s1 : uS} (h : nbuf s x = some s1) (hd : decode M.2.1 pc = .ok (.newarray .byte, 2)) (k9 : GU l D A B Z M d r s1 (pc + 2) lv (.ref (B + s.n) :: st)) : GU l D A B Z M d r s pc lv (.int x :: st) := fun σ0 σ hs => by
  obtain ⟨⟨h1, h2, h3⟩, h8⟩ := uu_grd h
  cases h8
  refine g_newa (t0 := 1) (N := x.toNatClampNeg) (f := .inl (fun _ => 0)) rfl rfl (fun _ h => h) ac_byte hv_byte h1 rfl (by show x.toNatClampNeg * 1 ≤ 536870912; omega) (by rw [hs.1]; show B + s.n + 1 ≤ B + 600000; omega) (by rw [hs.2.1]; exact h3) hd ?_
  rw [hs.1]
  refine k9 σ0 _ (hs.pN ?_)
  unfold ucell
  rw [uCl_nn hs.2.2.1, if_neg (show ¬ (21 : Nat) < 20 by decide), if_pos (show (21 : Nat) < 23 by decide)]
  congr 4
  funext b
  exact (if_pos rfl).symm
theorem uu_newE {ix : Nat} {s1 : uS} (h : nent s = some s1) (hf : h_nl M.1.cls ix 1 RX1 TX1 6 fsX1) (hd : decode M.2.1 pc = .ok (.new ix, 3)) (k9 : GU l D A B Z M d r s1 (pc + 3) lv (.ref (B + s.n) :: st)) : GU l D A B Z M d r s pc lv st := fun σ0 σ hs => by
  obtain ⟨⟨h1, h2⟩, h8⟩ := uu_grd h
  cases h8
  refine g_new hf (by rw [hs.1]; show B + s.n + 1 ≤ B + 600000; omega) (by rw [hs.2.1]; exact h2) hd ?_
  rw [hs.1]
  refine k9 σ0 _ (hs.pN ?_)
  unfold ucell
  rw [uCl_nn hs.2.2.1, if_pos (by decide)]
  congr 2
  have hi : ∀ b : Nat, (nw s 1 0 6).I s.n b = 0 := fun b => if_pos rfl
  have hr : ∀ b : Nat, (nw s 1 0 6).R s.n b = none := fun b => if_pos rfl
  have e : ufs A B (nw s 1 0 6) s.n 1 = (List.range (uNf 1)).map (fun f => if (ufd 1 f).1 = 0 then Value.int 0 else if (ufd 1 f).1 = 1 then .ref (B + (s.n + (ufd 1 f).2)) else if (ufd 1 f).1 = 2 then .ref (B + (ufd 1 f).2) else .null) := List.map_congr_left (fun f _ => by
    unfold uv
    rw [hi, hr]
    split
    · rfl
    · split
      · rfl
      · split
        · rfl
        · split <;> rfl)
  rw [e]
  rfl
theorem uu_clone {ix k : Nat} {s1 : uS} (ux : uX A B Z) (h : nclo s k = some s1) (hl : Cond.methodLink M.1.cls ix ⟨"[B", "clone", "()Ljava/lang/Object;"⟩ ∈ lw_g) (hd1 : 1 ≤ d) (hcat : (st.map fun v => v.category).sum ≤ 8) (hd : decode M.2.1 pc = .ok (.invokevirtual ix, 3)) (k9 : GU l D A B Z M d r s1 (pc + 3) lv (.ref (B + s.n) :: st)) : GU l D A B Z M d r s pc lv (.ref (B + k) :: st) := fun σ0 σ hs => by
  obtain ⟨⟨h1, h2, h3⟩, h8⟩ := uu_grd h
  cases h8
  refine g_clone (t0 := 1) rfl (hs.arr h1 (by decide) (by decide)) (fun i _ => hs.2.2.2.2 _ _ h1.2) ux.2 hl hd1 hcat (by rw [hs.1]; show B + s.n + 1 ≤ B + 600000; omega) (by rw [hs.2.1]; exact h3) hd ?_
  have hn : h_new σ (.inl (A 1, (uCl s k).2, .inl (s.F k))) (uCl s k).2 = h_set (h_new σ (.inl (A 1, (uCl s k).2, .inl (fun _ => 0))) (uCl s k).2) (B + s.n) (.inl (A 1, (uCl s k).2, .inl (s.F k))) := by
    unfold h_new h_set
    refine Prod.ext ?_ rfl
    funext b
    show (if b = σ.2.1 then _ else _) = if b = B + s.n then _ else (if b = σ.2.1 then _ else _)
    rw [hs.1]
    by_cases hb : b = B + s.n
    · rw [if_pos hb, if_pos hb]
    · rw [if_neg hb, if_neg hb, if_neg hb]
  rw [hs.1]
  show G _ _ _ _ _ _ _ _ _ (h_new σ (.inl (A 1, (uCl s k).2, .inl (s.F k))) (uCl s k).2) _ _ _
  rw [hn]
  have h0 : uSt A B (h_new σ (.inl (A 1, (uCl s k).2, .inl (fun _ => 0))) (uCl s k).2) (nw s 21 (uCl s k).2 (uCl s k).2) := hs.pN (by
    unfold ucell
    rw [uCl_nn hs.2.2.1, if_neg (show ¬ (21 : Nat) < 20 by decide), if_pos (show (21 : Nat) < 23 by decide)]
    congr 4
    funext b
    exact (if_pos rfl).symm)
  have h9 := h0.pFs (k := s.n) (t := 21) (g := s.F k) ⟨Or.inr (Nat.lt_succ_self _), by rw [uCl_nn hs.2.2.1]⟩ (by decide) (by decide) (fun _ i => hs.2.2.2.2 _ _ h1.2)
  rw [uCl_nn hs.2.2.1] at h9
  exact k9 σ0 _ h9
theorem uu_castB {ix k : Nat} (hk : uIs s k 21) (hl : Cond.classLink M.1.cls ix "[B" ∈ lw_g) (hd : decode M.2.1 pc = .ok (.checkcast ix, 3)) (k9 : GU l D A B Z M d r s (pc + 3) lv (.ref (B + k) :: st)) : GU l D A B Z M d r s pc lv (.ref (B + k) :: st) := fun σ0 σ hs => g_castB (t0 := 1) rfl (hs.arr hk (by decide) (by decide)) hl hd (k9 σ0 σ hs)
theorem uu_obj {ix k : Nat} (hl : Cond.methodLink M.1.cls ix objectInit ∈ lw_g) (h1 : 1 ≤ d) (hcat : (st.map fun v => v.category).sum ≤ 8) (hd : decode M.2.1 pc = .ok (.invokespecial ix, 3)) (k9 : GU l D A B Z M d r s (pc + 3) lv st) : GU l D A B Z M d r s pc lv (.ref (B + k) :: st) := fun σ0 σ hs => g_obj hl h_oi h_oc h1 hcat hd (k9 σ0 σ hs)
theorem uu_ci {ix d1 k : Nat} {M1 : hM} {As : List Value} {s1 : uS} (hC : CU l D A B Z d1 M1 s (.ref (B + k) :: As) (s1, none)) (hr : M1.2.2.2 = none) (hm : h_ml M1 As.length) (hl : Cond.methodLink M.1.cls ix M1.1 ∈ lw_g) (hs : M1.1.name = "<init>" ∧ Cond.instanceMethod M1.1 ∈ lw_g) (hd1 : d1 + 1 ≤ d) (hcat : (st.map fun v => v.category).sum ≤ 8) (hd : decode M.2.1 pc = .ok (.invokespecial ix, 3)) (k9 : GU l D A B Z M d r s1 (pc + 3) lv st) : GU l D A B Z M d r s pc lv (As.reverse ++ .ref (B + k) :: st) := fun σ0 σ h => g_ci (hC σ h) hr hm hl hs hd1 hcat hd (fun σ1 w hp _ => by
  obtain ⟨h1, rfl⟩ := hp
  exact k9 σ0 σ1 h1)
theorem uSt.pL4 {σ : hS} {k f c : Nat} {v : Option Nat} (h : uSt A B σ s) (hk : uIs s k c) (hc : c < 20) (hf : f < uNf c) (hd : (ufd c f).1 = 4) : uSt A B (h_set σ (B + k) (.inr (c, (ufs A B s k c).set f (va_rf (v.map (uad A B)))))) (wR s k f v) := by
  refine h.up hk.1 rfl rfl h.2.2.2.2 ?_ (fun j hj => ?_)
  · unfold ucell
    rw [show uCl (wR s k f v) k = uCl s k from rfl, hk.2, if_pos hc]
    rw [ufs_set (s' := wR s k f v) hf (by unfold uv; rw [if_neg (by omega), if_neg (by omega), if_neg (by omega), if_neg (by omega), show (wR s k f v).R k f = v from uw2_e]) (fun j hj => uv_R (fun e => hj e.2))]
  · unfold ucell
    rw [show uCl (wR s k f v) j = uCl s j from rfl, ufs_R hj]
    rfl
/-- a label is set -/
theorem uu_putl {ix ci k f N x : Nat} {C : String} {T : u_T} {ft : FieldType} (hf : h_fl M.1.cls ix ci f C T N) (ht : (∃ t0 : Nat → FieldType, ∀ k, k < N → parseFieldDescriptor (T k).2.2.1 = some (t0 k)) ∧ (∀ a, a < N → ∀ b, b < N → a ≠ b → (T a).2.1 ≠ (T b).2.1)) (hfin : (T f).2.2.2 = false ∨ ((T f).2.2.2 = true ∧ M.1.name = "<init>" ∧ (T f).1 = M.1.cls)) (hN : uNf ci = N) (hk : uIs s k ci) (hc : ci < 20) (hfd : (ufd ci f).1 = 4) (hp : parseFieldDescriptor (T f).2.2.1 = some ft) (hn : narrow ft (.ref (uad A B x)) = .ref (uad A B x)) (hfit : fits ft (.ref (uad A B x)) = true) (hd : decode M.2.1 pc = .ok (.putfield ix, 3)) (k9 : GU l D A B Z M d r (wR s k f (some x)) (pc + 3) lv st) : GU l D A B Z M d r s pc lv (.ref (uad A B x) :: .ref (B + k) :: st) := fun σ0 σ hs => g_put hf ht hfin (hs.obj hk hc) hp hn hfit (by rw [ufs_len, hN]; exact hf.2.1) hd (k9 σ0 _ (hs.pL4 (v := some x) hk hc (by rw [hN]; exact hf.2.1) hfd))
theorem uu_eqv {x : Value} (y : Value) (h : x = y) (k9 : GU l D A B Z M d r s pc lv (y :: st)) : GU l D A B Z M d r s pc lv (x :: st) := h ▸ k9
end HV
section HI
variable {l : Launch} {D : va_G} {ty : List (ClassId × FieldType)} {B : Nat} {Z : State → Heap → Prop} {d : Nat} {σ : hS} {vF : Value}
theorem ct_can (hs : zs B Z vF) {x : Int32} : Ct l D ty B Z d mJ1_canEncode_9a6ad σ [.int x] (fun σ1 v => σ1 = σ ∧ v = some (.int (if x < 0 ∨ 255 < x then 0 else 1))) := by
  refine ct_of rfl hs.1 (Nat.le_of_ble_eq_true rfl) ?_
  show G _ _ _ _ _ _ _ _ _ _ 0 [(0, .int x)] []
  refine g_iload_n dJ1_canEncode_9a6ad_0 rfl (List.mem_of_getElem? (i := 0) rfl) ?_
  refine g_if_lt (tgt := 15) dJ1_canEncode_9a6ad_1 (by decide) (fun c => ?_) (fun c => ?_)
  · refine g_iconst (v := 0) dJ1_canEncode_9a6ad_15 (by decide) ?_
    exact g_zret rfl rfl dJ1_canEncode_9a6ad_16 ⟨rfl, by rw [if_pos (Or.inl c)]⟩
  · refine g_iload_n dJ1_canEncode_9a6ad_4 rfl (List.mem_of_getElem? (i := 0) rfl) ?_
    refine g_sipush (v := 255) dJ1_canEncode_9a6ad_5 (by decide) ?_
    refine g_icmp_gt (tgt := 15) dJ1_canEncode_9a6ad_8 (by decide) (fun c2 => ?_) (fun c2 => ?_)
    · refine g_iconst (v := 0) dJ1_canEncode_9a6ad_15 (by decide) ?_
      exact g_zret rfl rfl dJ1_canEncode_9a6ad_16 ⟨rfl, by rw [if_pos (Or.inr c2)]⟩
    · refine g_iconst (v := 1) dJ1_canEncode_9a6ad_11 (by decide) ?_
      refine g_goto (tgt := 16) dJ1_canEncode_9a6ad_12 (by decide) ?_
      exact g_zret rfl rfl dJ1_canEncode_9a6ad_16 ⟨rfl, by rw [if_neg (fun h => h.elim c c2)]⟩
theorem ct_idxL {q w : Nat} {bs : List Nat} {x c : Int32} (h : sC B Z q w bs) (hl : bs.length < 2 ^ 30) : ∀ n i : Nat, bs.length ≤ i + n → i ≤ bs.length → sIx c bs 0 = sIx c (bs.drop i) i → G l D ty B Z mJ1_indexOfChar_4cfef d σ (fun σ1 v => σ1 = σ ∧ v = some (.int (sIx c bs 0))) σ 7 [(5, .int (nI i)), (4, .int c), (0, .ref w), (1, .int x), (2, .int 0), (3, .int (nI bs.length))] [] := by
  intro n
  induction n with
  | zero =>
    intro i h1 h2 h3
    refine g_iload dJ1_indexOfChar_4cfef_7 (List.mem_of_getElem? (i := 0) rfl) ?_
    refine g_iload_n dJ1_indexOfChar_4cfef_9 rfl (List.mem_of_getElem? (i := 5) rfl) ?_
    refine g_icmp_ge (tgt := 31) dJ1_indexOfChar_4cfef_10 (by decide) (fun _ => ?_) (fun c9 => absurd ((nI_leI (by omega) (by omega)).mpr (by omega)) c9)
    refine g_iconst (v := -1) dJ1_indexOfChar_4cfef_31 (by decide) ?_
    exact g_iret rfl dJ1_indexOfChar_4cfef_32 ⟨rfl, by rw [h3, List.drop_of_length_le (by omega)]; rfl⟩
  | succ n ih =>
    intro i h1 h2 h3
    refine g_iload dJ1_indexOfChar_4cfef_7 (List.mem_of_getElem? (i := 0) rfl) ?_
    refine g_iload_n dJ1_indexOfChar_4cfef_9 rfl (List.mem_of_getElem? (i := 5) rfl) ?_
    refine g_icmp_ge (tgt := 31) dJ1_indexOfChar_4cfef_10 (by decide) (fun c9 => ?_) (fun c9 => ?_)
    · have c9 : bs.length ≤ i := (nI_leI (by omega) (by omega)).mp c9
      refine g_iconst (v := -1) dJ1_indexOfChar_4cfef_31 (by decide) ?_
      exact g_iret rfl dJ1_indexOfChar_4cfef_32 ⟨rfl, by rw [h3, List.drop_of_length_le (by omega)]; rfl⟩
    · have c9 : i < bs.length := Nat.not_le.mp fun e => c9 ((nI_leI (by omega) (by omega)).mpr e)
      have hd : bs.drop i = bs.getD i 0 :: bs.drop (i + 1) := by
        rw [List.drop_eq_getElem_cons c9, List.getD_eq_getElem?_getD, List.getElem?_eq_getElem c9]
        rfl
      refine g_aload_n dJ1_indexOfChar_4cfef_13 rfl (List.mem_of_getElem? (i := 2) rfl) ?_
      refine g_iload dJ1_indexOfChar_4cfef_14 (List.mem_of_getElem? (i := 0) rfl) ?_
      refine g_tb (v := .int (nI (bs.getD i 0))) (fun U H hz => (h U H hz).2.2.2) (vp_in_nI c9 (by omega)) (by rw [nI_clamp (by omega)]) dJ1_indexOfChar_4cfef_16 ?_
      refine g_iload dJ1_indexOfChar_4cfef_17 (List.mem_of_getElem? (i := 1) rfl) ?_
      refine g_icmp_ne (tgt := 25) dJ1_indexOfChar_4cfef_19 (by decide) (fun c8 => ?_) (fun c8 => ?_)
      · refine g_iinc (v := nI (i + 1)) dJ1_indexOfChar_4cfef_25 (k := 0) rfl (nI_1 i) (by decide) rfl ?_
        refine g_goto (tgt := 7) dJ1_indexOfChar_4cfef_28 (by decide) ?_
        refine ih (i + 1) (by omega) (by omega) ?_
        rw [h3, hd]
        show (if nI (bs.getD i 0) = c then nI i else sIx c (bs.drop (i + 1)) (i + 1)) = _
        rw [if_neg c8]
      · refine g_iload dJ1_indexOfChar_4cfef_22 (List.mem_of_getElem? (i := 0) rfl) ?_
        refine g_iret rfl dJ1_indexOfChar_4cfef_24 ⟨rfl, ?_⟩
        rw [h3, hd]
        show _ = some (Value.int (if nI (bs.getD i 0) = c then nI i else sIx c (bs.drop (i + 1)) (i + 1)))
        rw [if_pos c8]
theorem ct_idxC (hs : zs B Z vF) {q w : Nat} {bs : List Nat} {x : Int32} (h : sC B Z q w bs) (hl : bs.length < 2 ^ 30) : Ct l D ty B Z d mJ1_indexOfChar_4cfef σ [.ref w, .int x, .int 0, .int (nI bs.length)] (fun σ1 v => σ1 = σ ∧ v = some (.int (sIx x.toInt8.toInt32 bs 0))) := by
  refine ct_of rfl hs.1 (Nat.le_of_ble_eq_true rfl) ?_
  show G _ _ _ _ _ _ _ _ _ _ 0 [(0, .ref w), (1, .int x), (2, .int 0), (3, .int (nI bs.length))] []
  refine g_iload_n dJ1_indexOfChar_4cfef_0 rfl (List.mem_of_getElem? (i := 1) rfl) ?_
  refine g_i2b dJ1_indexOfChar_4cfef_1 rfl ?_
  refine g_istore dJ1_indexOfChar_4cfef_2 (by decide) rfl ?_
  refine g_iload_n dJ1_indexOfChar_4cfef_4 rfl (List.mem_of_getElem? (i := 3) rfl) ?_
  refine g_istore dJ1_indexOfChar_4cfef_5 (by decide) rfl ?_
  exact ct_idxL h hl bs.length 0 (by omega) (by omega) rfl
theorem ct_idx1 (hs : zs B Z vF) {q w : Nat} {bs : List Nat} {x : Int32} (h : sC B Z q w bs) (hl : bs.length < 2 ^ 30) (hd1 : 1 ≤ d) : Ct l D ty B Z d mJ1_indexOf_4cfef σ [.ref w, .int x, .int 0, .int (nI bs.length)] (fun σ1 v => σ1 = σ ∧ v = some (.int (stidx bs x))) := by
  refine ct_of rfl hs.1 (Nat.le_of_ble_eq_true rfl) ?_
  show G _ _ _ _ _ _ _ _ _ _ 0 [(0, .ref w), (1, .int x), (2, .int 0), (3, .int (nI bs.length))] []
  refine g_iload_n dJ1_indexOf_4cfef_0 rfl (List.mem_of_getElem? (i := 1) rfl) ?_
  refine g_cs (d1 := 0) (As := [.int x]) (st := []) (ct_can hs) kJ1_canEncode_9a6ad lJ1_can sJ1_canEncode_9a6ad (by omega) (Nat.le_of_ble_eq_true rfl) dJ1_indexOf_4cfef_1 (fun σ1 v h1 _ => ?_)
  obtain ⟨rfl, rfl⟩ := h1
  show G _ _ _ _ _ _ _ _ _ _ 4 [(0, .ref w), (1, .int x), (2, .int 0), (3, .int (nI bs.length))] [.int (if x < 0 ∨ 255 < x then 0 else 1)]
  by_cases hx : x < 0 ∨ 255 < x
  · rw [if_pos hx]
    refine g_if_ne (tgt := 9) dJ1_indexOf_4cfef_4 (by decide) (fun c => absurd rfl c) (fun _ => ?_)
    refine g_iconst (v := -1) dJ1_indexOf_4cfef_7 (by decide) ?_
    exact g_iret rfl dJ1_indexOf_4cfef_8 ⟨rfl, by unfold stidx; rw [if_pos hx]⟩
  · rw [if_neg hx]
    refine g_if_ne (tgt := 9) dJ1_indexOf_4cfef_4 (by decide) (fun _ => ?_) (fun c => absurd c (by decide))
    refine g_iload_n dJ1_indexOf_4cfef_9 rfl (List.mem_of_getElem? (i := 2) rfl) ?_
    refine g_iconst (v := 0) dJ1_indexOf_4cfef_10 (by decide) ?_
    refine g_mmax lJ1_mx hd1 (Nat.le_of_ble_eq_true rfl) dJ1_indexOf_4cfef_11 ?_
    refine g_eqi 0 (by decide) ?_
    refine g_istore_n dJ1_indexOf_4cfef_14 rfl (by decide) rfl ?_
    refine g_iload_n dJ1_indexOf_4cfef_15 rfl (List.mem_of_getElem? (i := 3) rfl) ?_
    refine g_aload_n dJ1_indexOf_4cfef_16 rfl (List.mem_of_getElem? (i := 1) rfl) ?_
    refine g_tlen (fun U H hz => (h U H hz).2.2.2) dJ1_indexOf_4cfef_17 ?_
    refine g_mmin lJ1_mn hd1 (Nat.le_of_ble_eq_true rfl) dJ1_indexOf_4cfef_18 ?_
    refine g_eqi (nI bs.length) (by split <;> rfl) ?_
    refine g_istore_n dJ1_indexOf_4cfef_21 rfl (by decide) rfl ?_
    refine g_iload_n dJ1_indexOf_4cfef_22 rfl (List.mem_of_getElem? (i := 1) rfl) ?_
    refine g_iload_n dJ1_indexOf_4cfef_23 rfl (List.mem_of_getElem? (i := 0) rfl) ?_
    refine g_icmp_lt (tgt := 29) dJ1_indexOf_4cfef_24 (by decide) (fun c => ?_) (fun c => ?_)
    · refine g_aload_n dJ1_indexOf_4cfef_29 rfl (List.mem_of_getElem? (i := 2) rfl) ?_
      refine g_iload_n dJ1_indexOf_4cfef_30 rfl (List.mem_of_getElem? (i := 3) rfl) ?_
      refine g_iload_n dJ1_indexOf_4cfef_31 rfl (List.mem_of_getElem? (i := 1) rfl) ?_
      refine g_iload_n dJ1_indexOf_4cfef_32 rfl (List.mem_of_getElem? (i := 0) rfl) ?_
      refine g_cs (d1 := 0) (As := [.ref w, .int x, .int 0, .int (nI bs.length)]) (st := []) (ct_idxC hs h hl) kJ1_indexOfChar_4cfef lJ1_idxC sJ1_indexOfChar_4cfef (by omega) (Nat.le_of_ble_eq_true rfl) dJ1_indexOf_4cfef_33 (fun σ1 v h1 _ => ?_)
      obtain ⟨rfl, rfl⟩ := h1
      refine g_iret rfl dJ1_indexOf_4cfef_36 ⟨rfl, ?_⟩
      unfold stidx
      rw [if_neg hx]
    · refine g_iconst (v := -1) dJ1_indexOf_4cfef_27 (by decide) ?_
      refine g_iret rfl dJ1_indexOf_4cfef_28 ⟨rfl, ?_⟩
      have h0 : bs.length = 0 := Nat.eq_zero_of_not_pos fun hp => c (by rw [← nI_0]; exact nI_lt hp (by omega))
      unfold stidx
      rw [if_neg hx, List.length_eq_zero_iff.mp h0]
      rfl
theorem ct_idx2 (hs : zs B Z vF) {q w : Nat} {bs : List Nat} {x : Int32} (h : sC B Z q w bs) (hl : bs.length < 2 ^ 30) (hd1 : 2 ≤ d) : Ct l D ty B Z d mJ0_indexOf_7cf53 σ [.ref q, .int x, .int 0] (fun σ1 v => σ1 = σ ∧ v = some (.int (stidx bs x))) := by
  refine ct_of rfl hs.1 (Nat.le_of_ble_eq_true rfl) ?_
  show G _ _ _ _ _ _ _ _ _ _ 0 [(0, .ref q), (1, .int x), (2, .int 0)] []
  refine g_aload_n dJ0_indexOf_7cf53_0 rfl (List.mem_of_getElem? (i := 0) rfl) ?_
  refine g_cv (d1 := 0) (As := []) (st := []) (ct_isLatin1 hs h) h.rc kJ0_isLatin1_aae02 lJ0_isLatin1 sJ0_isLatin1_aae02 (by omega) (Nat.le_of_ble_eq_true rfl) dJ0_indexOf_7cf53_1 (fun σ1 v h1 _ => ?_)
  obtain ⟨rfl, rfl⟩ := h1
  show G _ _ _ _ _ _ _ _ _ _ 4 [(0, .ref q), (1, .int x), (2, .int 0)] [.int 1]
  refine g_if_eq (tgt := 23) dJ0_indexOf_7cf53_4 (by decide) (fun c => absurd c (by decide)) (fun _ => ?_)
  refine g_aload_n dJ0_indexOf_7cf53_7 rfl (List.mem_of_getElem? (i := 0) rfl) ?_
  refine g_getk (fun U H hz => (h U H hz).2.2.1) fJ0_value dJ0_indexOf_7cf53_8 ?_
  refine g_iload_n dJ0_indexOf_7cf53_11 rfl (List.mem_of_getElem? (i := 1) rfl) ?_
  refine g_iload_n dJ0_indexOf_7cf53_12 rfl (List.mem_of_getElem? (i := 2) rfl) ?_
  refine g_aload_n dJ0_indexOf_7cf53_13 rfl (List.mem_of_getElem? (i := 0) rfl) ?_
  refine g_cv (d1 := 1) (As := []) (st := [.int 0, .int x, .ref w]) (ct_len hs h (Nat.le_refl _)) h.rc kJ0_length_8abf5 lJ0_len sJ0_length_8abf5 (by omega) (Nat.le_of_ble_eq_true rfl) dJ0_indexOf_7cf53_14 (fun σ1 v h1 _ => ?_)
  obtain ⟨rfl, rfl⟩ := h1
  show G _ _ _ _ _ _ _ _ _ _ 17 [(0, .ref q), (1, .int x), (2, .int 0)] [.int (nI bs.length), .int 0, .int x, .ref w]
  refine g_cs (d1 := 1) (As := [.ref w, .int x, .int 0, .int (nI bs.length)]) (st := []) (ct_idx1 hs h hl (Nat.le_refl _)) kJ1_indexOf_4cfef lJ0_idx1 sJ1_indexOf_4cfef (by omega) (Nat.le_of_ble_eq_true rfl) dJ0_indexOf_7cf53_17 (fun σ1 v h1 _ => ?_)
  obtain ⟨rfl, rfl⟩ := h1
  refine g_goto (tgt := 36) dJ0_indexOf_7cf53_20 (by decide) ?_
  exact g_iret rfl dJ0_indexOf_7cf53_36 ⟨rfl, rfl⟩
theorem ct_idx (hs : zs B Z vF) {q w : Nat} {bs : List Nat} {x : Int32} (h : sC B Z q w bs) (hl : bs.length < 2 ^ 30) (hd1 : 3 ≤ d) : Ct l D ty B Z d mJ0_indexOf_0f7a4 σ [.ref q, .int x] (fun σ1 v => σ1 = σ ∧ v = some (.int (stidx bs x))) := by
  refine ct_of rfl hs.1 (Nat.le_of_ble_eq_true rfl) ?_
  show G _ _ _ _ _ _ _ _ _ _ 0 [(0, .ref q), (1, .int x)] []
  refine g_aload_n dJ0_indexOf_0f7a4_0 rfl (List.mem_of_getElem? (i := 0) rfl) ?_
  refine g_iload_n dJ0_indexOf_0f7a4_1 rfl (List.mem_of_getElem? (i := 1) rfl) ?_
  refine g_iconst (v := 0) dJ0_indexOf_0f7a4_2 (by decide) ?_
  refine g_cv (d1 := 2) (As := [.int x, .int 0]) (st := []) (ct_idx2 hs h hl (Nat.le_refl _)) h.rc kJ0_indexOf_7cf53 lJ0_idx2 sJ0_indexOf_7cf53 (by omega) (Nat.le_of_ble_eq_true rfl) dJ0_indexOf_0f7a4_3 (fun σ1 v h1 _ => ?_)
  obtain ⟨rfl, rfl⟩ := h1
  exact g_iret rfl dJ0_indexOf_0f7a4_6 ⟨rfl, rfl⟩
end HI
section HI2
variable {l : Launch} {D : va_G} {A : Nat → ClassId} {B : Nat} {Z : State → Heap → Prop} {M : hM} {d : Nat} {r : uS × Option Value} {s : uS} {pc : Nat} {lv : List (Nat × Value)} {st : List Value}
theorem uu_sidx {ix q w : Nat} {bs : List Nat} {vF : Value} {x : Int32} (uk : uK B Z vF) (hq : uStr B Z q w bs) (hlen : bs.length < 2 ^ 30) (hl : Cond.methodLink M.1.cls ix mJ0_indexOf_0f7a4.1 ∈ lw_g) (h2 : 4 ≤ d) (hcat : (st.map fun v => v.category).sum ≤ 8) (hd : decode M.2.1 pc = .ok (.invokevirtual ix, 3)) (k9 : GU l D A B Z M d r s (pc + 3) lv (.int (stidx bs x) :: st)) : GU l D A B Z M d r s pc lv (.int x :: .ref q :: st) := fun σ0 σ hs =>
  g_cv (d1 := 3) (As := [.int x]) (ct_idx uk.1 hq.1 hlen (Nat.le_refl _)) hq.1.rc kJ0_indexOf_0f7a4 hl sJ0_indexOf_0f7a4 h2 hcat hd (fun σ1 v h1 _ => by
    obtain ⟨rfl, rfl⟩ := h1
    exact k9 σ0 σ1 hs)
end HI2
