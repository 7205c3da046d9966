abbrev mX11_cut : hM := (yX11_cut, cX11_cut, 2, (some (.boolean)))
theorem dX11_cut_0 : decode cX11_cut 0 = .ok (.iload_n 1, 1) := by decide +kernel
theorem dX11_cut_1 : decode cX11_cut 1 = .ok (.ifCond .lt 10, 3) := by decide +kernel
theorem dX11_cut_4 : decode cX11_cut 4 = .ok (.iload_n 1, 1) := by decide +kernel
theorem dX11_cut_5 : decode cX11_cut 5 = .ok (.sipush 1000, 3) := by decide +kernel
theorem dX11_cut_8 : decode cX11_cut 8 = .ok (.if_icmp .le 5, 3) := by decide +kernel
theorem dX11_cut_11 : decode cX11_cut 11 = .ok (.iconst 0, 1) := by decide +kernel
theorem dX11_cut_12 : decode cX11_cut 12 = .ok (.ireturn, 1) := by decide +kernel
theorem dX11_cut_13 : decode cX11_cut 13 = .ok (.aload_n 0, 1) := by decide +kernel
theorem dX11_cut_14 : decode cX11_cut 14 = .ok (.iload_n 1, 1) := by decide +kernel
theorem dX11_cut_15 : decode cX11_cut 15 = .ok (.putfield 140, 3) := by decide +kernel
theorem fX11_140 : h_fl RX11 140 11 15 RX11 TX11 17 := ⟨rfl, by decide, inX11, h_t3 94 rfl rfl⟩
theorem dX11_cut_18 : decode cX11_cut 18 = .ok (.iconst 1, 1) := by decide +kernel
theorem dX11_cut_19 : decode cX11_cut 19 = .ok (.ireturn, 1) := by decide +kernel
abbrev mX11_start : hM := (yX11_start, cX11_start, 1, (some (.int)))
theorem dX11_start_0 : decode cX11_start 0 = .ok (.aload_n 0, 1) := by decide +kernel
theorem dX11_start_1 : decode cX11_start 1 = .ok (.getfield 44, 3) := by decide +kernel
theorem dX11_start_4 : decode cX11_start 4 = .ok (.ifCond .eq 5, 3) := by decide +kernel
theorem dX11_start_7 : decode cX11_start 7 = .ok (.iconst (-1), 1) := by decide +kernel
theorem dX11_start_8 : decode cX11_start 8 = .ok (.ireturn, 1) := by decide +kernel
theorem dX11_start_9 : decode cX11_start 9 = .ok (.aload_n 0, 1) := by decide +kernel
theorem dX11_start_10 : decode cX11_start 10 = .ok (.iconst 1, 1) := by decide +kernel
theorem dX11_start_11 : decode cX11_start 11 = .ok (.putfield 44, 3) := by decide +kernel
theorem dX11_start_14 : decode cX11_start 14 = .ok (.aload_n 0, 1) := by decide +kernel
theorem dX11_start_15 : decode cX11_start 15 = .ok (.getfield 143, 3) := by decide +kernel
theorem fX11_143 : h_fl RX11 143 11 14 RX11 TX11 17 := ⟨rfl, by decide, inX11, h_t3 93 rfl rfl⟩
theorem dX11_start_18 : decode cX11_start 18 = .ok (.ireturn, 1) := by decide +kernel
abbrev mX11_addToTape : hM := (yX11_addToTape, cX11_addToTape, 3, none)
theorem dX11_addToTape_0 : decode cX11_addToTape 0 = .ok (.bipush 24, 2) := by decide +kernel
theorem dX11_addToTape_2 : decode cX11_addToTape 2 = .ok (.istore_n 2, 1) := by decide +kernel
theorem dX11_addToTape_3 : decode cX11_addToTape 3 = .ok (.iload_n 2, 1) := by decide +kernel
theorem dX11_addToTape_4 : decode cX11_addToTape 4 = .ok (.ifCond .lt 42, 3) := by decide +kernel
theorem dX11_addToTape_7 : decode cX11_addToTape 7 = .ok (.aload_n 0, 1) := by decide +kernel
theorem dX11_addToTape_8 : decode cX11_addToTape 8 = .ok (.getfield 88, 3) := by decide +kernel
theorem fX11_88 : h_fl RX11 88 11 9 RX11 TX11 17 := ⟨rfl, by decide, inX11, h_t3 88 rfl rfl⟩
theorem dX11_addToTape_11 : decode cX11_addToTape 11 = .ok (.sipush 6000, 3) := by decide +kernel
theorem dX11_addToTape_14 : decode cX11_addToTape 14 = .ok (.if_icmp .ge 32, 3) := by decide +kernel
theorem dX11_addToTape_17 : decode cX11_addToTape 17 = .ok (.aload_n 0, 1) := by decide +kernel
theorem dX11_addToTape_18 : decode cX11_addToTape 18 = .ok (.getfield 9, 3) := by decide +kernel
theorem dX11_addToTape_21 : decode cX11_addToTape 21 = .ok (.aload_n 0, 1) := by decide +kernel
theorem dX11_addToTape_22 : decode cX11_addToTape 22 = .ok (.getfield 88, 3) := by decide +kernel
theorem dX11_addToTape_25 : decode cX11_addToTape 25 = .ok (.iload_n 1, 1) := by decide +kernel
theorem dX11_addToTape_26 : decode cX11_addToTape 26 = .ok (.iload_n 2, 1) := by decide +kernel
theorem dX11_addToTape_27 : decode cX11_addToTape 27 = .ok (.ishr, 1) := by decide +kernel
theorem dX11_addToTape_28 : decode cX11_addToTape 28 = .ok (.i2b, 1) := by decide +kernel
theorem dX11_addToTape_29 : decode cX11_addToTape 29 = .ok (.bastore, 1) := by decide +kernel
theorem dX11_addToTape_30 : decode cX11_addToTape 30 = .ok (.aload_n 0, 1) := by decide +kernel
theorem dX11_addToTape_31 : decode cX11_addToTape 31 = .ok (.dup, 1) := by decide +kernel
theorem dX11_addToTape_32 : decode cX11_addToTape 32 = .ok (.getfield 88, 3) := by decide +kernel
theorem dX11_addToTape_35 : decode cX11_addToTape 35 = .ok (.iconst 1, 1) := by decide +kernel
theorem dX11_addToTape_36 : decode cX11_addToTape 36 = .ok (.iadd, 1) := by decide +kernel
theorem dX11_addToTape_37 : decode cX11_addToTape 37 = .ok (.putfield 88, 3) := by decide +kernel
theorem dX11_addToTape_40 : decode cX11_addToTape 40 = .ok (.iinc 2 (-8), 3) := by decide +kernel
theorem dX11_addToTape_43 : decode cX11_addToTape 43 = .ok (.goto (-40), 3) := by decide +kernel
theorem dX11_addToTape_46 : decode cX11_addToTape 46 = .ok (.return_, 1) := by decide +kernel
abbrev mX11_feed : hM := (yX11_feed, cX11_feed, 6, (some (.boolean)))
theorem dX11_feed_0 : decode cX11_feed 0 = .ok (.aload_n 0, 1) := by decide +kernel
theorem dX11_feed_1 : decode cX11_feed 1 = .ok (.getfield 44, 3) := by decide +kernel
theorem dX11_feed_4 : decode cX11_feed 4 = .ok (.ifCond .eq 13, 3) := by decide +kernel
theorem dX11_feed_7 : decode cX11_feed 7 = .ok (.aload_n 0, 1) := by decide +kernel
theorem dX11_feed_8 : decode cX11_feed 8 = .ok (.getfield 88, 3) := by decide +kernel
theorem dX11_feed_11 : decode cX11_feed 11 = .ok (.sipush 5980, 3) := by decide +kernel
theorem dX11_feed_14 : decode cX11_feed 14 = .ok (.if_icmp .le 5, 3) := by decide +kernel
theorem dX11_feed_17 : decode cX11_feed 17 = .ok (.iconst 0, 1) := by decide +kernel
theorem dX11_feed_18 : decode cX11_feed 18 = .ok (.ireturn, 1) := by decide +kernel
theorem dX11_feed_19 : decode cX11_feed 19 = .ok (.aload_n 0, 1) := by decide +kernel
theorem dX11_feed_20 : decode cX11_feed 20 = .ok (.iload_n 1, 1) := by decide +kernel
theorem dX11_feed_21 : decode cX11_feed 21 = .ok (.invokevirtual 92, 3) := by decide +kernel
theorem kX11_addToTape : h_ml mX11_addToTape 1 := ⟨h_t3 138 rfl rfl, h_t1 1 rfl rfl, ⟨by decide, by decide, by decide +kernel⟩, by decide⟩
theorem sX11_addToTape : Cond.instanceMethod mX11_addToTape.1 ∈ lw_g ∧ Cond.selects mX11_addToTape.1.cls mX11_addToTape.1 mX11_addToTape.1 ∈ lw_g := ⟨h_t3 137 rfl rfl, h_ins 0 rfl⟩
theorem lX11_92 : Cond.methodLink RX11 92 mX11_addToTape.1 ∈ lw_g := h_t3 135 rfl rfl
theorem dX11_feed_24 : decode cX11_feed 24 = .ok (.aload_n 0, 1) := by decide +kernel
theorem dX11_feed_25 : decode cX11_feed 25 = .ok (.iload_n 2, 1) := by decide +kernel
theorem dX11_feed_26 : decode cX11_feed 26 = .ok (.invokevirtual 92, 3) := by decide +kernel
theorem dX11_feed_29 : decode cX11_feed 29 = .ok (.aload_n 0, 1) := by decide +kernel
theorem dX11_feed_30 : decode cX11_feed 30 = .ok (.iload_n 3, 1) := by decide +kernel
theorem dX11_feed_31 : decode cX11_feed 31 = .ok (.invokevirtual 92, 3) := by decide +kernel
theorem dX11_feed_34 : decode cX11_feed 34 = .ok (.aload_n 0, 1) := by decide +kernel
theorem dX11_feed_35 : decode cX11_feed 35 = .ok (.iload 4, 2) := by decide +kernel
theorem dX11_feed_37 : decode cX11_feed 37 = .ok (.invokevirtual 92, 3) := by decide +kernel
theorem dX11_feed_40 : decode cX11_feed 40 = .ok (.aload_n 0, 1) := by decide +kernel
theorem dX11_feed_41 : decode cX11_feed 41 = .ok (.iload 5, 2) := by decide +kernel
theorem dX11_feed_43 : decode cX11_feed 43 = .ok (.invokevirtual 92, 3) := by decide +kernel
theorem dX11_feed_46 : decode cX11_feed 46 = .ok (.iconst 1, 1) := by decide +kernel
theorem dX11_feed_47 : decode cX11_feed 47 = .ok (.ireturn, 1) := by decide +kernel
/-- the object: where its parts are, its numbers -/
abbrev smO (n0 ts mc oc mb dy cm ci : Nat) (pw : Int32) : va_E := .inr (11, [.ref (n0 + 0), .ref (n0 + 1), .ref (n0 + 2), .ref (n0 + 3), .ref (n0 + 4), .ref (n0 + 5), .ref (n0 + 1041), .ref (n0 + 1052), .ref (n0 + 1069), .int (nI ts), .int (nI mc), .int (nI oc), .int (nI mb), .int (nI dy), .int (nI cm), .int (nI ci), .int pw])
def cutV (k : Int32) : Int32 := if k < 0 then 0 else if k ≤ 1000 then 1 else 0
def cutN (k : Int32) (ci : Nat) : Nat := if k < 0 then ci else if k ≤ 1000 then k.toNatClampNeg else ci
theorem nI_self {k : Int32} (h : ¬ k < 0) : nI k.toNatClampNeg = k := by
  obtain ⟨j, hj, rfl⟩ := nI_of h
  rw [nI_clamp hj]
set_option maxRecDepth 100000 in
set_option maxHeartbeats 4000000 in
/-- cut(k) -/
theorem ct_cut {l : Launch} {D : va_G} {A : Nat → ClassId} {B : Nat} {Z : State → Heap → Prop} (hZ : h_st B Z) {d : Nat} {σ : hS} {a n0 : Nat} {ts mc oc mb dy cm ci : Nat} {pw : Int32} (ha : σ.1 a = some (smO n0 ts mc oc mb dy cm ci pw)) {k : Int32} : Ct l D (h_ty A) B Z d mX11_cut σ [.ref a, .int k] (fun σ1 v => v = some (.int (cutV k)) ∧ σ1.1 a = some (smO n0 ts mc oc mb dy cm (cutN k ci) pw) ∧ h_fr (fun q => q = a) σ σ1) := by
  refine ct_of rfl hZ (Nat.le_of_ble_eq_true rfl) ?_
  show G _ _ _ _ _ _ _ _ _ _ 0 [(0, .ref a), (1, .int k)] []
  refine g_iload_n dX11_cut_0 rfl (List.mem_of_getElem? (i := 1) rfl) ?_
  refine g_if_lt (tgt := 11) dX11_cut_1 (by decide) (fun c1 => ?_) (fun c1 => ?_)
  · have c1 := c1
    refine g_iconst (v := 0) dX11_cut_11 (by decide) ?_
    exact g_zret rfl rfl dX11_cut_12 (⟨by unfold cutV; rw [if_pos c1], by unfold cutN; rw [if_pos c1]; exact ha, h_fr.rf⟩)
  · refine g_iload_n dX11_cut_4 rfl (List.mem_of_getElem? (i := 1) rfl) ?_
    refine g_sipush (v := 1000) dX11_cut_5 (by decide) ?_
    refine g_icmp_le (tgt := 13) dX11_cut_8 (by decide) (fun c8 => ?_) (fun c8 => ?_)
    · refine g_aload_n dX11_cut_13 rfl (List.mem_of_getElem? (i := 0) rfl) ?_
      refine g_iload_n dX11_cut_14 rfl (List.mem_of_getElem? (i := 1) rfl) ?_
      refine g_put (ft := .int) fX11_140 ptX11 (Or.inl rfl) ha (by decide +kernel) rfl rfl (Nat.le_of_ble_eq_true rfl) dX11_cut_15 ?_
      refine g_iconst (v := 1) dX11_cut_18 (by decide) ?_
      exact g_zret rfl rfl dX11_cut_19 (⟨by unfold cutV; rw [if_neg c1, if_pos c8], by unfold cutN; rw [if_neg c1, if_pos c8]; show _ = some (smO n0 ts mc oc mb dy cm _ pw); unfold smO; rw [nI_self c1]; exact h_e, ⟨fun q hq => h_n hq rfl, rfl⟩⟩)
    · have c8 := c8
      refine g_iconst (v := 0) dX11_cut_11 (by decide) ?_
      exact g_zret rfl rfl dX11_cut_12 (⟨by unfold cutV; rw [if_neg c1, if_neg c8], by unfold cutN; rw [if_neg c1, if_neg c8]; exact ha, h_fr.rf⟩)
set_option maxRecDepth 100000 in
set_option maxHeartbeats 4000000 in
/-- start() -/
theorem ct_start {l : Launch} {D : va_G} {A : Nat → ClassId} {B : Nat} {Z : State → Heap → Prop} (hZ : h_st B Z) {d : Nat} {σ : hS} {a n0 : Nat} {ts mc oc mb dy cm ci : Nat} {pw : Int32} (ha : σ.1 a = some (smO n0 ts mc oc mb dy cm ci pw)) : Ct l D (h_ty A) B Z d mX11_start σ [.ref a] (fun σ1 v => v = some (.int (if pw = 0 then nI cm else -1)) ∧ σ1.1 a = some (smO n0 ts mc oc mb dy cm ci (if pw = 0 then 1 else pw)) ∧ h_fr (fun q => q = a) σ σ1) := by
  refine ct_of rfl hZ (Nat.le_of_ble_eq_true rfl) ?_
  show G _ _ _ _ _ _ _ _ _ _ 0 [(0, .ref a)] []
  refine g_aload_n dX11_start_0 rfl (List.mem_of_getElem? (i := 0) rfl) ?_
  refine g_get fX11_44 ha (v := .int pw) rfl dX11_start_1 ?_
  refine g_if_eq (tgt := 9) dX11_start_4 (by decide) (fun c4 => ?_) (fun c4 => ?_)
  · have c4 := c4
    refine g_aload_n dX11_start_9 rfl (List.mem_of_getElem? (i := 0) rfl) ?_
    refine g_iconst (v := 1) dX11_start_10 (by decide) ?_
    refine g_put (ft := .boolean) fX11_44 ptX11 (Or.inl rfl) ha (by decide +kernel) rfl rfl (Nat.le_of_ble_eq_true rfl) dX11_start_11 ?_
    refine g_aload_n dX11_start_14 rfl (List.mem_of_getElem? (i := 0) rfl) ?_
    refine g_get fX11_143 h_e (v := .int (nI cm)) rfl dX11_start_15 ?_
    exact g_iret rfl dX11_start_18 (⟨by rw [if_pos c4], by rw [if_pos c4]; exact h_e, ⟨fun q hq => h_n hq rfl, rfl⟩⟩)
  · have c4 := c4
    refine g_iconst (v := -1) dX11_start_7 (by decide) ?_
    exact g_iret rfl dX11_start_8 (⟨by rw [if_neg c4], by rw [if_neg c4]; exact ha, h_fr.rf⟩)
def t4 (f : Nat → Int32) (ts : Nat) (x : Int32) : Nat → Int32 := upd (upd (upd (upd f ts (x >>> ((24 : Int32) &&& 31)).toInt8.toInt32) (ts + 1) (x >>> ((16 : Int32) &&& 31)).toInt8.toInt32) (ts + 2) (x >>> ((8 : Int32) &&& 31)).toInt8.toInt32) (ts + 3) (x >>> ((0 : Int32) &&& 31)).toInt8.toInt32
theorem t4_eq {f : Nat → Int32} {ts : Nat} {x : Int32} (h : ts + 4 ≤ 6000) : t4 f ts x = upd (upd (upd (upd f (nI ts).toNatClampNeg (vp_nar .byte (x >>> ((24 : Int32) &&& 31)).toInt8.toInt32)) (nI (ts + 1)).toNatClampNeg (vp_nar .byte (x >>> ((16 : Int32) &&& 31)).toInt8.toInt32)) (nI (ts + 2)).toNatClampNeg (vp_nar .byte (x >>> ((8 : Int32) &&& 31)).toInt8.toInt32)) (nI (ts + 3)).toNatClampNeg (vp_nar .byte (x >>> ((0 : Int32) &&& 31)).toInt8.toInt32) := by
  rw [nI_clamp (by omega), nI_clamp (by omega), nI_clamp (by omega), nI_clamp (by omega), pk_vb, pk_vb, pk_vb, pk_vb]
  rfl
set_option maxRecDepth 100000 in
set_option maxHeartbeats 4000000 in
/-- addToTape: where there is room for four -/
theorem ct_add4 {l : Launch} {D : va_G} {A : Nat → ClassId} {B : Nat} {Z : State → Heap → Prop} (hZ : h_st B Z) {d : Nat} {σ : hS} {a n0 : Nat} {ts mc oc mb dy cm ci : Nat} {pw : Int32} (ha : σ.1 a = some (smO n0 ts mc oc mb dy cm ci pw)) {f : Nat → Int32} (hf : σ.1 (n0 + 0) = some (.inl (A 1, 6000, .inl f))) (hts : ts + 4 ≤ 6000) {x : Int32} : Ct l D (h_ty A) B Z d mX11_addToTape σ [.ref a, .int x] (fun σ1 v => v = none ∧ σ1.1 a = some (smO n0 (ts + 4) mc oc mb dy cm ci pw) ∧ σ1.1 (n0 + 0) = some (.inl (A 1, 6000, .inl (t4 f ts x))) ∧ h_fr (fun q => q = a ∨ q = n0 + 0) σ σ1) := by
  have hne : a ≠ n0 + 0 := h_nk ha hf h_oa
  refine ct_of rfl hZ (Nat.le_of_ble_eq_true rfl) ?_
  show G _ _ _ _ _ _ _ _ _ _ 0 [(0, .ref a), (1, .int x)] []
  refine g_bipush (v := 24) dX11_addToTape_0 (by decide) ?_
  refine g_istore_n dX11_addToTape_2 rfl (by decide) rfl ?_
  refine g_iload_n dX11_addToTape_3 rfl (List.mem_of_getElem? (i := 0) rfl) ?_
  refine g_if_lt (tgt := 46) dX11_addToTape_4 (by decide) (fun c4 => absurd c4 (by decide)) (fun c4 => ?_)
  refine g_aload_n dX11_addToTape_7 rfl (List.mem_of_getElem? (i := 1) rfl) ?_
  refine g_get fX11_88 ha (v := .int (nI ts)) rfl dX11_addToTape_8 ?_
  refine g_sipush (v := 6000) dX11_addToTape_11 (by decide) ?_
  refine g_icmp_ge (tgt := 46) dX11_addToTape_14 (by decide) (fun c14 => absurd c14 (fun h => absurd ((nI_leI (a := 6000) (b := ts) (by decide) (by omega)).mp h) (by omega))) (fun c14 => ?_)
  refine g_aload_n dX11_addToTape_17 rfl (List.mem_of_getElem? (i := 1) rfl) ?_
  refine g_get fX11_9 ha (v := .ref (n0 + 0)) rfl dX11_addToTape_18 ?_
  refine g_aload_n dX11_addToTape_21 rfl (List.mem_of_getElem? (i := 1) rfl) ?_
  refine g_get fX11_88 ha (v := .int (nI ts)) rfl dX11_addToTape_22 ?_
  refine g_iload_n dX11_addToTape_25 rfl (List.mem_of_getElem? (i := 2) rfl) ?_
  refine g_iload_n dX11_addToTape_26 rfl (List.mem_of_getElem? (i := 0) rfl) ?_
  refine g_ishr dX11_addToTape_27 ?_
  refine g_i2b dX11_addToTape_28 rfl ?_
  refine g_bast (t0 := 1) rfl hf (vp_in_nI (by omega) (by decide)) dX11_addToTape_29 ?_
  refine g_aload_n dX11_addToTape_30 rfl (List.mem_of_getElem? (i := 1) rfl) ?_
  refine g_dup dX11_addToTape_31 rfl ?_
  refine g_get fX11_88 (h_n hne ha) (v := .int (nI ts)) rfl dX11_addToTape_32 ?_
  refine g_iconst (v := 1) dX11_addToTape_35 (by decide) ?_
  refine g_iadd dX11_addToTape_36 ?_
  refine g_eqi (nI (ts + 1)) (nI_1 _) ?_
  refine g_put (ft := .int) fX11_88 ptX11 (Or.inl rfl) (h_n hne ha) (by decide +kernel) rfl rfl (Nat.le_of_ble_eq_true rfl) dX11_addToTape_37 ?_
  refine g_iinc (v := 16) dX11_addToTape_40 (k := 0) rfl (by decide) (by decide) rfl ?_
  refine g_goto (tgt := 3) dX11_addToTape_43 (by decide) ?_
  refine g_iload_n dX11_addToTape_3 rfl (List.mem_of_getElem? (i := 0) rfl) ?_
  refine g_if_lt (tgt := 46) dX11_addToTape_4 (by decide) (fun c4 => absurd c4 (by decide)) (fun c4 => ?_)
  refine g_aload_n dX11_addToTape_7 rfl (List.mem_of_getElem? (i := 1) rfl) ?_
  refine g_get fX11_88 h_e (v := .int (nI (ts + 1))) rfl dX11_addToTape_8 ?_
  refine g_sipush (v := 6000) dX11_addToTape_11 (by decide) ?_
  refine g_icmp_ge (tgt := 46) dX11_addToTape_14 (by decide) (fun c14 => absurd c14 (fun h => absurd ((nI_leI (a := 6000) (b := ts + 1) (by decide) (by omega)).mp h) (by omega))) (fun c14 => ?_)
  refine g_aload_n dX11_addToTape_17 rfl (List.mem_of_getElem? (i := 1) rfl) ?_
  refine g_get fX11_9 h_e (v := .ref (n0 + 0)) rfl dX11_addToTape_18 ?_
  refine g_aload_n dX11_addToTape_21 rfl (List.mem_of_getElem? (i := 1) rfl) ?_
  refine g_get fX11_88 h_e (v := .int (nI (ts + 1))) rfl dX11_addToTape_22 ?_
  refine g_iload_n dX11_addToTape_25 rfl (List.mem_of_getElem? (i := 2) rfl) ?_
  refine g_iload_n dX11_addToTape_26 rfl (List.mem_of_getElem? (i := 0) rfl) ?_
  refine g_ishr dX11_addToTape_27 ?_
  refine g_i2b dX11_addToTape_28 rfl ?_
  refine g_bast (t0 := 1) rfl (h_n (Ne.symm hne) h_e) (vp_in_nI (by omega) (by decide)) dX11_addToTape_29 ?_
  refine g_aload_n dX11_addToTape_30 rfl (List.mem_of_getElem? (i := 1) rfl) ?_
  refine g_dup dX11_addToTape_31 rfl ?_
  refine g_get fX11_88 (h_n hne h_e) (v := .int (nI (ts + 1))) rfl dX11_addToTape_32 ?_
  refine g_iconst (v := 1) dX11_addToTape_35 (by decide) ?_
  refine g_iadd dX11_addToTape_36 ?_
  refine g_eqi (nI (ts + 2)) (nI_1 _) ?_
  refine g_put (ft := .int) fX11_88 ptX11 (Or.inl rfl) (h_n hne h_e) (by decide +kernel) rfl rfl (Nat.le_of_ble_eq_true rfl) dX11_addToTape_37 ?_
  refine g_iinc (v := 8) dX11_addToTape_40 (k := 0) rfl (by decide) (by decide) rfl ?_
  refine g_goto (tgt := 3) dX11_addToTape_43 (by decide) ?_
  refine g_iload_n dX11_addToTape_3 rfl (List.mem_of_getElem? (i := 0) rfl) ?_
  refine g_if_lt (tgt := 46) dX11_addToTape_4 (by decide) (fun c4 => absurd c4 (by decide)) (fun c4 => ?_)
  refine g_aload_n dX11_addToTape_7 rfl (List.mem_of_getElem? (i := 1) rfl) ?_
  refine g_get fX11_88 h_e (v := .int (nI (ts + 2))) rfl dX11_addToTape_8 ?_
  refine g_sipush (v := 6000) dX11_addToTape_11 (by decide) ?_
  refine g_icmp_ge (tgt := 46) dX11_addToTape_14 (by decide) (fun c14 => absurd c14 (fun h => absurd ((nI_leI (a := 6000) (b := ts + 2) (by decide) (by omega)).mp h) (by omega))) (fun c14 => ?_)
  refine g_aload_n dX11_addToTape_17 rfl (List.mem_of_getElem? (i := 1) rfl) ?_
  refine g_get fX11_9 h_e (v := .ref (n0 + 0)) rfl dX11_addToTape_18 ?_
  refine g_aload_n dX11_addToTape_21 rfl (List.mem_of_getElem? (i := 1) rfl) ?_
  refine g_get fX11_88 h_e (v := .int (nI (ts + 2))) rfl dX11_addToTape_22 ?_
  refine g_iload_n dX11_addToTape_25 rfl (List.mem_of_getElem? (i := 2) rfl) ?_
  refine g_iload_n dX11_addToTape_26 rfl (List.mem_of_getElem? (i := 0) rfl) ?_
  refine g_ishr dX11_addToTape_27 ?_
  refine g_i2b dX11_addToTape_28 rfl ?_
  refine g_bast (t0 := 1) rfl (h_n (Ne.symm hne) h_e) (vp_in_nI (by omega) (by decide)) dX11_addToTape_29 ?_
  refine g_aload_n dX11_addToTape_30 rfl (List.mem_of_getElem? (i := 1) rfl) ?_
  refine g_dup dX11_addToTape_31 rfl ?_
  refine g_get fX11_88 (h_n hne h_e) (v := .int (nI (ts + 2))) rfl dX11_addToTape_32 ?_
  refine g_iconst (v := 1) dX11_addToTape_35 (by decide) ?_
  refine g_iadd dX11_addToTape_36 ?_
  refine g_eqi (nI (ts + 3)) (nI_1 _) ?_
  refine g_put (ft := .int) fX11_88 ptX11 (Or.inl rfl) (h_n hne h_e) (by decide +kernel) rfl rfl (Nat.le_of_ble_eq_true rfl) dX11_addToTape_37 ?_
  refine g_iinc (v := 0) dX11_addToTape_40 (k := 0) rfl (by decide) (by decide) rfl ?_
  refine g_goto (tgt := 3) dX11_addToTape_43 (by decide) ?_
  refine g_iload_n dX11_addToTape_3 rfl (List.mem_of_getElem? (i := 0) rfl) ?_
  refine g_if_lt (tgt := 46) dX11_addToTape_4 (by decide) (fun c4 => absurd c4 (by decide)) (fun c4 => ?_)
  refine g_aload_n dX11_addToTape_7 rfl (List.mem_of_getElem? (i := 1) rfl) ?_
  refine g_get fX11_88 h_e (v := .int (nI (ts + 3))) rfl dX11_addToTape_8 ?_
  refine g_sipush (v := 6000) dX11_addToTape_11 (by decide) ?_
  refine g_icmp_ge (tgt := 46) dX11_addToTape_14 (by decide) (fun c14 => absurd c14 (fun h => absurd ((nI_leI (a := 6000) (b := ts + 3) (by decide) (by omega)).mp h) (by omega))) (fun c14 => ?_)
  refine g_aload_n dX11_addToTape_17 rfl (List.mem_of_getElem? (i := 1) rfl) ?_
  refine g_get fX11_9 h_e (v := .ref (n0 + 0)) rfl dX11_addToTape_18 ?_
  refine g_aload_n dX11_addToTape_21 rfl (List.mem_of_getElem? (i := 1) rfl) ?_
  refine g_get fX11_88 h_e (v := .int (nI (ts + 3))) rfl dX11_addToTape_22 ?_
  refine g_iload_n dX11_addToTape_25 rfl (List.mem_of_getElem? (i := 2) rfl) ?_
  refine g_iload_n dX11_addToTape_26 rfl (List.mem_of_getElem? (i := 0) rfl) ?_
  refine g_ishr dX11_addToTape_27 ?_
  refine g_i2b dX11_addToTape_28 rfl ?_
  refine g_bast (t0 := 1) rfl (h_n (Ne.symm hne) h_e) (vp_in_nI (by omega) (by decide)) dX11_addToTape_29 ?_
  refine g_aload_n dX11_addToTape_30 rfl (List.mem_of_getElem? (i := 1) rfl) ?_
  refine g_dup dX11_addToTape_31 rfl ?_
  refine g_get fX11_88 (h_n hne h_e) (v := .int (nI (ts + 3))) rfl dX11_addToTape_32 ?_
  refine g_iconst (v := 1) dX11_addToTape_35 (by decide) ?_
  refine g_iadd dX11_addToTape_36 ?_
  refine g_eqi (nI (ts + 4)) (nI_1 _) ?_
  refine g_put (ft := .int) fX11_88 ptX11 (Or.inl rfl) (h_n hne h_e) (by decide +kernel) rfl rfl (Nat.le_of_ble_eq_true rfl) dX11_addToTape_37 ?_
  refine g_iinc (v := -8) dX11_addToTape_40 (k := 0) rfl (by decide) (by decide) rfl ?_
  refine g_goto (tgt := 3) dX11_addToTape_43 (by decide) ?_
  refine g_iload_n dX11_addToTape_3 rfl (List.mem_of_getElem? (i := 0) rfl) ?_
  refine g_if_lt (tgt := 46) dX11_addToTape_4 (by decide) (fun c4 => ?_) (fun c4 => absurd (by decide) c4)
  exact g_vret rfl dX11_addToTape_46 (⟨rfl, h_e, by rw [t4_eq hts]; exact (h_n (Ne.symm hne) h_e), ⟨fun q hq => h_n (fun h => hq (Or.inl h)) (h_n (fun h => hq (Or.inr h)) (h_n (fun h => hq (Or.inl h)) (h_n (fun h => hq (Or.inr h)) (h_n (fun h => hq (Or.inl h)) (h_n (fun h => hq (Or.inr h)) (h_n (fun h => hq (Or.inl h)) (h_n (fun h => hq (Or.inr h)) (rfl)))))))), rfl⟩⟩)
set_option maxRecDepth 100000 in
set_option maxHeartbeats 4000000 in
/-- feed -/
theorem ct_feed {l : Launch} {D : va_G} {A : Nat → ClassId} {B : Nat} {Z : State → Heap → Prop} (hZ : h_st B Z) {d : Nat} {σ : hS} {a n0 : Nat} {ts mc oc mb dy cm ci : Nat} {pw : Int32} (ha : σ.1 a = some (smO n0 ts mc oc mb dy cm ci pw)) {f : Nat → Int32} (hf : σ.1 (n0 + 0) = some (.inl (A 1, 6000, .inl f))) (hts : ts ≤ 6000) (hd1 : 1 ≤ d) {x0 x1 x2 x3 x4 : Int32} : Ct l D (h_ty A) B Z d mX11_feed σ [.ref a, .int x0, .int x1, .int x2, .int x3, .int x4] (fun σ1 v => v = some (.int (if pw = 0 ∨ 5980 < ts then 0 else 1)) ∧ (if pw = 0 ∨ 5980 < ts then σ1.1 a = some (smO n0 ts mc oc mb dy cm ci pw) ∧ σ1.1 (n0 + 0) = some (.inl (A 1, 6000, .inl f)) else σ1.1 a = some (smO n0 (ts + 20) mc oc mb dy cm ci pw) ∧ σ1.1 (n0 + 0) = some (.inl (A 1, 6000, .inl (t4 (t4 (t4 (t4 (t4 f ts x0) (ts + 4) x1) (ts + 8) x2) (ts + 12) x3) (ts + 16) x4)))) ∧ h_fr (fun q => q = a ∨ q = n0 + 0) σ σ1) := by
  refine ct_of rfl hZ (Nat.le_of_ble_eq_true rfl) ?_
  show G _ _ _ _ _ _ _ _ _ _ 0 [(0, .ref a), (1, .int x0), (2, .int x1), (3, .int x2), (4, .int x3), (5, .int x4)] []
  refine g_aload_n dX11_feed_0 rfl (List.mem_of_getElem? (i := 0) rfl) ?_
  refine g_get fX11_44 ha (v := .int pw) rfl dX11_feed_1 ?_
  refine g_if_eq (tgt := 17) dX11_feed_4 (by decide) (fun c4 => ?_) (fun c4 => ?_)
  · have hc : pw = 0 ∨ 5980 < ts := Or.inl c4
    refine g_iconst (v := 0) dX11_feed_17 (by decide) ?_
    exact g_zret rfl rfl dX11_feed_18 (⟨by rw [if_pos hc], by rw [if_pos hc]; exact ⟨ha, hf⟩, h_fr.rf⟩)
  · have c4 := c4
    refine g_aload_n dX11_feed_7 rfl (List.mem_of_getElem? (i := 0) rfl) ?_
    refine g_get fX11_88 ha (v := .int (nI ts)) rfl dX11_feed_8 ?_
    refine g_sipush (v := 5980) dX11_feed_11 (by decide) ?_
    refine g_icmp_le (tgt := 19) dX11_feed_14 (by decide) (fun c14 => ?_) (fun c14 => ?_)
    · have h14 : ts ≤ 5980 := (nI_leI (a := ts) (b := 5980) (by omega) (by decide)).mp c14
      have hc : ¬ (pw = 0 ∨ 5980 < ts) := fun h => h.elim c4 (fun h => by omega)
      refine g_aload_n dX11_feed_19 rfl (List.mem_of_getElem? (i := 0) rfl) ?_
      refine g_iload_n dX11_feed_20 rfl (List.mem_of_getElem? (i := 1) rfl) ?_
      refine g_cv (d1 := 0) (As := [.int x0]) (st := []) (ct_add4 hZ (ts := ts) ha hf (by omega)) (h_rcO (r := (RX11, TX11, 17)) ha rfl) kX11_addToTape lX11_92 sX11_addToTape (by omega) (Nat.le_of_ble_eq_true rfl) dX11_feed_21 (fun τ21 v21 h21 z21 => ?_)
      obtain ⟨rfl, ga0, gt0, gf0⟩ := h21
      show G _ _ _ _ _ _ _ _ _ _ 24 [(0, .ref a), (1, .int x0), (2, .int x1), (3, .int x2), (4, .int x3), (5, .int x4)] []
      refine g_aload_n dX11_feed_24 rfl (List.mem_of_getElem? (i := 0) rfl) ?_
      refine g_iload_n dX11_feed_25 rfl (List.mem_of_getElem? (i := 2) rfl) ?_
      refine g_cv (d1 := 0) (As := [.int x1]) (st := []) (ct_add4 hZ (ts := ts + 4) ga0 gt0 (by omega)) (h_rcO (r := (RX11, TX11, 17)) ga0 rfl) kX11_addToTape lX11_92 sX11_addToTape (by omega) (Nat.le_of_ble_eq_true rfl) dX11_feed_26 (fun τ26 v26 h26 z26 => ?_)
      obtain ⟨rfl, ga1, gt1, gf1⟩ := h26
      show G _ _ _ _ _ _ _ _ _ _ 29 [(0, .ref a), (1, .int x0), (2, .int x1), (3, .int x2), (4, .int x3), (5, .int x4)] []
      refine g_aload_n dX11_feed_29 rfl (List.mem_of_getElem? (i := 0) rfl) ?_
      refine g_iload_n dX11_feed_30 rfl (List.mem_of_getElem? (i := 3) rfl) ?_
      refine g_cv (d1 := 0) (As := [.int x2]) (st := []) (ct_add4 hZ (ts := ts + 8) ga1 gt1 (by omega)) (h_rcO (r := (RX11, TX11, 17)) ga1 rfl) kX11_addToTape lX11_92 sX11_addToTape (by omega) (Nat.le_of_ble_eq_true rfl) dX11_feed_31 (fun τ31 v31 h31 z31 => ?_)
      obtain ⟨rfl, ga2, gt2, gf2⟩ := h31
      show G _ _ _ _ _ _ _ _ _ _ 34 [(0, .ref a), (1, .int x0), (2, .int x1), (3, .int x2), (4, .int x3), (5, .int x4)] []
      refine g_aload_n dX11_feed_34 rfl (List.mem_of_getElem? (i := 0) rfl) ?_
      refine g_iload dX11_feed_35 (List.mem_of_getElem? (i := 4) rfl) ?_
      refine g_cv (d1 := 0) (As := [.int x3]) (st := []) (ct_add4 hZ (ts := ts + 12) ga2 gt2 (by omega)) (h_rcO (r := (RX11, TX11, 17)) ga2 rfl) kX11_addToTape lX11_92 sX11_addToTape (by omega) (Nat.le_of_ble_eq_true rfl) dX11_feed_37 (fun τ37 v37 h37 z37 => ?_)
      obtain ⟨rfl, ga3, gt3, gf3⟩ := h37
      show G _ _ _ _ _ _ _ _ _ _ 40 [(0, .ref a), (1, .int x0), (2, .int x1), (3, .int x2), (4, .int x3), (5, .int x4)] []
      refine g_aload_n dX11_feed_40 rfl (List.mem_of_getElem? (i := 0) rfl) ?_
      refine g_iload dX11_feed_41 (List.mem_of_getElem? (i := 5) rfl) ?_
      refine g_cv (d1 := 0) (As := [.int x4]) (st := []) (ct_add4 hZ (ts := ts + 16) ga3 gt3 (by omega)) (h_rcO (r := (RX11, TX11, 17)) ga3 rfl) kX11_addToTape lX11_92 sX11_addToTape (by omega) (Nat.le_of_ble_eq_true rfl) dX11_feed_43 (fun τ43 v43 h43 z43 => ?_)
      obtain ⟨rfl, ga4, gt4, gf4⟩ := h43
      show G _ _ _ _ _ _ _ _ _ _ 46 [(0, .ref a), (1, .int x0), (2, .int x1), (3, .int x2), (4, .int x3), (5, .int x4)] []
      refine g_iconst (v := 1) dX11_feed_46 (by decide) ?_
      exact g_zret rfl rfl dX11_feed_47 (⟨by rw [if_neg hc], by rw [if_neg hc]; exact ⟨ga4, gt4⟩, gf0.tr (gf1.tr (gf2.tr (gf3.tr gf4)))⟩)
    · have hc : pw = 0 ∨ 5980 < ts := Or.inr (Nat.lt_of_not_le fun h => c14 ((nI_leI (a := ts) (b := 5980) (by omega) (by decide)).mpr h))
      refine g_iconst (v := 0) dX11_feed_17 (by decide) ?_
      exact g_zret rfl rfl dX11_feed_18 (⟨by rw [if_pos hc], by rw [if_pos hc]; exact ⟨ha, hf⟩, h_fr.rf⟩)
