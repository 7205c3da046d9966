abbrev mX12_cut : hM := (yX12_cut, cX12_cut, 2, (some (.boolean)))
theorem dX12_cut_0 : decode cX12_cut 0 = .ok (.iload_n 1, 1) := by decide +kernel
theorem dX12_cut_1 : decode cX12_cut 1 = .ok (.ifCond .lt 10, 3) := by decide +kernel
theorem dX12_cut_4 : decode cX12_cut 4 = .ok (.iload_n 1, 1) := by decide +kernel
theorem dX12_cut_5 : decode cX12_cut 5 = .ok (.sipush 1000, 3) := by decide +kernel
theorem dX12_cut_8 : decode cX12_cut 8 = .ok (.if_icmp .le 5, 3) := by decide +kernel
theorem dX12_cut_11 : decode cX12_cut 11 = .ok (.iconst 0, 1) := by decide +kernel
theorem dX12_cut_12 : decode cX12_cut 12 = .ok (.ireturn, 1) := by decide +kernel
theorem dX12_cut_13 : decode cX12_cut 13 = .ok (.aload_n 0, 1) := by decide +kernel
theorem dX12_cut_14 : decode cX12_cut 14 = .ok (.iload_n 1, 1) := by decide +kernel
theorem dX12_cut_15 : decode cX12_cut 15 = .ok (.putfield 1, 3) := by decide +kernel
theorem fX12_1 : h_fl RX12 1 12 3 RX12 TX12 153 := ⟨rfl, by decide, inX12, h_t11 204 rfl rfl⟩
theorem dX12_cut_18 : decode cX12_cut 18 = .ok (.iconst 1, 1) := by decide +kernel
theorem dX12_cut_19 : decode cX12_cut 19 = .ok (.ireturn, 1) := by decide +kernel
abbrev mX12_start : hM := (yX12_start, cX12_start, 1, (some (.int)))
theorem dX12_start_0 : decode cX12_start 0 = .ok (.aload_n 0, 1) := by decide +kernel
theorem dX12_start_1 : decode cX12_start 1 = .ok (.getfield 7, 3) := by decide +kernel
theorem dX12_start_4 : decode cX12_start 4 = .ok (.ifCond .eq 5, 3) := by decide +kernel
theorem dX12_start_7 : decode cX12_start 7 = .ok (.iconst (-1), 1) := by decide +kernel
theorem dX12_start_8 : decode cX12_start 8 = .ok (.ireturn, 1) := by decide +kernel
theorem dX12_start_9 : decode cX12_start 9 = .ok (.aload_n 0, 1) := by decide +kernel
theorem dX12_start_10 : decode cX12_start 10 = .ok (.iconst 1, 1) := by decide +kernel
theorem dX12_start_11 : decode cX12_start 11 = .ok (.putfield 7, 3) := by decide +kernel
theorem dX12_start_14 : decode cX12_start 14 = .ok (.aload_n 0, 1) := by decide +kernel
theorem dX12_start_15 : decode cX12_start 15 = .ok (.getfield 18, 3) := by decide +kernel
theorem fX12_18 : h_fl RX12 18 12 2 RX12 TX12 153 := ⟨rfl, by decide, inX12, h_t11 203 rfl rfl⟩
theorem dX12_start_18 : decode cX12_start 18 = .ok (.ireturn, 1) := by decide +kernel
abbrev mX12_lay : hM := (yX12_lay, cX12_lay, 3, none)
theorem dX12_lay_0 : decode cX12_lay 0 = .ok (.iconst 0, 1) := by decide +kernel
theorem dX12_lay_1 : decode cX12_lay 1 = .ok (.istore_n 2, 1) := by decide +kernel
theorem dX12_lay_2 : decode cX12_lay 2 = .ok (.iload_n 2, 1) := by decide +kernel
theorem dX12_lay_3 : decode cX12_lay 3 = .ok (.iconst 4, 1) := by decide +kernel
theorem dX12_lay_4 : decode cX12_lay 4 = .ok (.if_icmp .ge 33, 3) := by decide +kernel
theorem dX12_lay_7 : decode cX12_lay 7 = .ok (.aload_n 0, 1) := by decide +kernel
theorem dX12_lay_8 : decode cX12_lay 8 = .ok (.getfield 21, 3) := by decide +kernel
theorem dX12_lay_11 : decode cX12_lay 11 = .ok (.aload_n 0, 1) := by decide +kernel
theorem dX12_lay_12 : decode cX12_lay 12 = .ok (.getfield 25, 3) := by decide +kernel
theorem fX12_25 : h_fl RX12 25 12 5 RX12 TX12 153 := ⟨rfl, by decide, inX12, h_t11 206 rfl rfl⟩
theorem dX12_lay_15 : decode cX12_lay 15 = .ok (.iload_n 2, 1) := by decide +kernel
theorem dX12_lay_16 : decode cX12_lay 16 = .ok (.iadd, 1) := by decide +kernel
theorem dX12_lay_17 : decode cX12_lay 17 = .ok (.iload_n 1, 1) := by decide +kernel
theorem dX12_lay_18 : decode cX12_lay 18 = .ok (.bipush 24, 2) := by decide +kernel
theorem dX12_lay_20 : decode cX12_lay 20 = .ok (.bipush 8, 2) := by decide +kernel
theorem dX12_lay_22 : decode cX12_lay 22 = .ok (.iload_n 2, 1) := by decide +kernel
theorem dX12_lay_23 : decode cX12_lay 23 = .ok (.imul, 1) := by decide +kernel
theorem dX12_lay_24 : decode cX12_lay 24 = .ok (.isub, 1) := by decide +kernel
theorem dX12_lay_25 : decode cX12_lay 25 = .ok (.ishr, 1) := by decide +kernel
theorem dX12_lay_26 : decode cX12_lay 26 = .ok (.sipush 255, 3) := by decide +kernel
theorem dX12_lay_29 : decode cX12_lay 29 = .ok (.iand, 1) := by decide +kernel
theorem dX12_lay_30 : decode cX12_lay 30 = .ok (.iastore, 1) := by decide +kernel
theorem dX12_lay_31 : decode cX12_lay 31 = .ok (.iinc 2 1, 3) := by decide +kernel
theorem dX12_lay_34 : decode cX12_lay 34 = .ok (.goto (-32), 3) := by decide +kernel
theorem dX12_lay_37 : decode cX12_lay 37 = .ok (.aload_n 0, 1) := by decide +kernel
theorem dX12_lay_38 : decode cX12_lay 38 = .ok (.aload_n 0, 1) := by decide +kernel
theorem dX12_lay_39 : decode cX12_lay 39 = .ok (.getfield 25, 3) := by decide +kernel
theorem dX12_lay_42 : decode cX12_lay 42 = .ok (.iconst 4, 1) := by decide +kernel
theorem dX12_lay_43 : decode cX12_lay 43 = .ok (.iadd, 1) := by decide +kernel
theorem dX12_lay_44 : decode cX12_lay 44 = .ok (.putfield 25, 3) := by decide +kernel
theorem dX12_lay_47 : decode cX12_lay 47 = .ok (.return_, 1) := by decide +kernel
abbrev mX12_feed : hM := (yX12_feed, cX12_feed, 6, (some (.boolean)))
theorem dX12_feed_0 : decode cX12_feed 0 = .ok (.aload_n 0, 1) := by decide +kernel
theorem dX12_feed_1 : decode cX12_feed 1 = .ok (.getfield 7, 3) := by decide +kernel
theorem dX12_feed_4 : decode cX12_feed 4 = .ok (.ifCond .eq 16, 3) := by decide +kernel
theorem dX12_feed_7 : decode cX12_feed 7 = .ok (.aload_n 0, 1) := by decide +kernel
theorem dX12_feed_8 : decode cX12_feed 8 = .ok (.getfield 25, 3) := by decide +kernel
theorem dX12_feed_11 : decode cX12_feed 11 = .ok (.bipush 20, 2) := by decide +kernel
theorem dX12_feed_13 : decode cX12_feed 13 = .ok (.iadd, 1) := by decide +kernel
theorem dX12_feed_14 : decode cX12_feed 14 = .ok (.sipush 6000, 3) := by decide +kernel
theorem dX12_feed_17 : decode cX12_feed 17 = .ok (.if_icmp .le 5, 3) := by decide +kernel
theorem dX12_feed_20 : decode cX12_feed 20 = .ok (.iconst 0, 1) := by decide +kernel
theorem dX12_feed_21 : decode cX12_feed 21 = .ok (.ireturn, 1) := by decide +kernel
theorem dX12_feed_22 : decode cX12_feed 22 = .ok (.aload_n 0, 1) := by decide +kernel
theorem dX12_feed_23 : decode cX12_feed 23 = .ok (.iload_n 1, 1) := by decide +kernel
theorem dX12_feed_24 : decode cX12_feed 24 = .ok (.invokevirtual 28, 3) := by decide +kernel
theorem kX12_lay : h_ml mX12_lay 1 := ⟨h_t7 207 rfl rfl, h_t1 16 rfl rfl, ⟨by decide, by decide, by decide +kernel⟩, by decide⟩
theorem sX12_lay : Cond.instanceMethod mX12_lay.1 ∈ lw_g ∧ Cond.selects mX12_lay.1.cls mX12_lay.1 mX12_lay.1 ∈ lw_g := ⟨h_t7 205 rfl rfl, h_ins 99 rfl⟩
theorem lX12_28 : Cond.methodLink RX12 28 mX12_lay.1 ∈ lw_g := h_t7 203 rfl rfl
theorem dX12_feed_27 : decode cX12_feed 27 = .ok (.aload_n 0, 1) := by decide +kernel
theorem dX12_feed_28 : decode cX12_feed 28 = .ok (.iload_n 2, 1) := by decide +kernel
theorem dX12_feed_29 : decode cX12_feed 29 = .ok (.invokevirtual 28, 3) := by decide +kernel
theorem dX12_feed_32 : decode cX12_feed 32 = .ok (.aload_n 0, 1) := by decide +kernel
theorem dX12_feed_33 : decode cX12_feed 33 = .ok (.iload_n 3, 1) := by decide +kernel
theorem dX12_feed_34 : decode cX12_feed 34 = .ok (.invokevirtual 28, 3) := by decide +kernel
theorem dX12_feed_37 : decode cX12_feed 37 = .ok (.aload_n 0, 1) := by decide +kernel
theorem dX12_feed_38 : decode cX12_feed 38 = .ok (.iload 4, 2) := by decide +kernel
theorem dX12_feed_40 : decode cX12_feed 40 = .ok (.invokevirtual 28, 3) := by decide +kernel
theorem dX12_feed_43 : decode cX12_feed 43 = .ok (.aload_n 0, 1) := by decide +kernel
theorem dX12_feed_44 : decode cX12_feed 44 = .ok (.iload 5, 2) := by decide +kernel
theorem dX12_feed_46 : decode cX12_feed 46 = .ok (.invokevirtual 28, 3) := by decide +kernel
theorem dX12_feed_49 : decode cX12_feed 49 = .ok (.iconst 1, 1) := by decide +kernel
theorem dX12_feed_50 : decode cX12_feed 50 = .ok (.ireturn, 1) := by decide +kernel
def mcut (k : Int32) (v : Nat → Int32) : Nat → Int32 := if k < 0 then v else if k ≤ 1000 then upd v 3 k else v
set_option maxRecDepth 100000 in
set_option maxHeartbeats 4000000 in
/-- the reference: cut -/
theorem cm_cut {l : Launch} {D : va_G} {A : Nat → ClassId} {B : Nat} {Z : State → Heap → Prop} (hZ : h_st B Z) {d : Nat} {σ : hS} {a n0 : Nat} {v : Nat → Int32} (ha : σ.1 a = some (.inr (12, mFs n0 v))) {k : Int32} : Ct l D (h_ty A) B Z d mX12_cut σ [.ref a, .int k] (fun σ1 w => w = some (.int (cutV k)) ∧ σ1.1 a = some (.inr (12, mFs n0 (mcut k v))) ∧ h_fr (fun q => q = a) σ σ1) := by
  refine ct_of rfl hZ (Nat.le_of_ble_eq_true rfl) ?_
  show G _ _ _ _ _ _ _ _ _ _ 0 [(0, .ref a), (1, .int k)] []
  refine g_iload_n dX12_cut_0 rfl (List.mem_of_getElem? (i := 1) rfl) ?_
  refine g_if_lt (tgt := 11) dX12_cut_1 (by decide) (fun c1 => ?_) (fun c1 => ?_)
  · have c1 := c1
    refine g_iconst (v := 0) dX12_cut_11 (by decide) ?_
    exact g_zret rfl rfl dX12_cut_12 (⟨by unfold cutV; rw [if_pos c1], by unfold mcut; rw [if_pos c1]; exact ha, h_fr.rf⟩)
  · refine g_iload_n dX12_cut_4 rfl (List.mem_of_getElem? (i := 1) rfl) ?_
    refine g_sipush (v := 1000) dX12_cut_5 (by decide) ?_
    refine g_icmp_le (tgt := 13) dX12_cut_8 (by decide) (fun c8 => ?_) (fun c8 => ?_)
    · refine g_aload_n dX12_cut_13 rfl (List.mem_of_getElem? (i := 0) rfl) ?_
      refine g_iload_n dX12_cut_14 rfl (List.mem_of_getElem? (i := 1) rfl) ?_
      refine g_putM (ft := .int) fX12_1 rfl rfl ha (by decide +kernel) rfl rfl dX12_cut_15 ?_
      refine g_iconst (v := 1) dX12_cut_18 (by decide) ?_
      exact g_zret rfl rfl dX12_cut_19 (⟨by unfold cutV; rw [if_neg c1, if_pos c8], by unfold mcut; rw [if_neg c1, if_pos c8]; exact h_e, ⟨fun q hq => h_n hq rfl, rfl⟩⟩)
    · have c8 := c8
      refine g_iconst (v := 0) dX12_cut_11 (by decide) ?_
      exact g_zret rfl rfl dX12_cut_12 (⟨by unfold cutV; rw [if_neg c1, if_neg c8], by unfold mcut; rw [if_neg c1, if_neg c8]; exact ha, h_fr.rf⟩)
set_option maxRecDepth 100000 in
set_option maxHeartbeats 4000000 in
/-- the reference: start -/
theorem cm_start {l : Launch} {D : va_G} {A : Nat → ClassId} {B : Nat} {Z : State → Heap → Prop} (hZ : h_st B Z) {d : Nat} {σ : hS} {a n0 : Nat} {v : Nat → Int32} (ha : σ.1 a = some (.inr (12, mFs n0 v))) : Ct l D (h_ty A) B Z d mX12_start σ [.ref a] (fun σ1 w => w = some (.int (if v 0 = 0 then v 2 else -1)) ∧ σ1.1 a = some (.inr (12, mFs n0 (if v 0 = 0 then upd v 0 1 else v))) ∧ h_fr (fun q => q = a) σ σ1) := by
  refine ct_of rfl hZ (Nat.le_of_ble_eq_true rfl) ?_
  show G _ _ _ _ _ _ _ _ _ _ 0 [(0, .ref a)] []
  refine g_aload_n dX12_start_0 rfl (List.mem_of_getElem? (i := 0) rfl) ?_
  refine g_get fX12_7 ha (v := .int (v 0)) (mFs_int (by decide) rfl) dX12_start_1 ?_
  refine g_if_eq (tgt := 9) dX12_start_4 (by decide) (fun c4 => ?_) (fun c4 => ?_)
  · have c4 := c4
    refine g_aload_n dX12_start_9 rfl (List.mem_of_getElem? (i := 0) rfl) ?_
    refine g_iconst (v := 1) dX12_start_10 (by decide) ?_
    refine g_putM (ft := .boolean) fX12_7 rfl rfl ha (by decide +kernel) rfl rfl dX12_start_11 ?_
    refine g_aload_n dX12_start_14 rfl (List.mem_of_getElem? (i := 0) rfl) ?_
    refine g_get fX12_18 h_e (v := .int (v 2)) (mFs_int (by decide) rfl) dX12_start_15 ?_
    exact g_iret rfl dX12_start_18 (⟨by rw [if_pos c4], by rw [if_pos c4]; exact h_e, ⟨fun q hq => h_n hq rfl, rfl⟩⟩)
  · have c4 := c4
    refine g_iconst (v := -1) dX12_start_7 (by decide) ?_
    exact g_iret rfl dX12_start_8 (⟨by rw [if_neg c4], by rw [if_neg c4]; exact ha, h_fr.rf⟩)
def l4 (f : Nat → Int32) (ts : Nat) (x : Int32) : Nat → Int32 := upd (upd (upd (upd f ts (x >>> ((24 : Int32) &&& 31) &&& 255)) (ts + 1) (x >>> ((16 : Int32) &&& 31) &&& 255)) (ts + 2) (x >>> ((8 : Int32) &&& 31) &&& 255)) (ts + 3) (x >>> ((0 : Int32) &&& 31) &&& 255)
theorem l4_eq {f : Nat → Int32} {ts : Nat} {x : Int32} (h : ts + 4 ≤ 6000) : upd (upd (upd (upd f (nI ts).toNatClampNeg (x >>> ((24 : Int32) &&& 31) &&& 255)) (nI (ts + 1)).toNatClampNeg (x >>> ((16 : Int32) &&& 31) &&& 255)) (nI (ts + 2)).toNatClampNeg (x >>> ((8 : Int32) &&& 31) &&& 255)) (nI (ts + 3)).toNatClampNeg (x >>> ((0 : Int32) &&& 31) &&& 255) = l4 f ts x := by
  rw [nI_clamp (by omega), nI_clamp (by omega), nI_clamp (by omega), nI_clamp (by omega)]
  rfl
set_option maxRecDepth 100000 in
set_option maxHeartbeats 4000000 in
/-- the reference: lay -/
theorem cm_lay {l : Launch} {D : va_G} {A : Nat → ClassId} {B : Nat} {Z : State → Heap → Prop} (hZ : h_st B Z) {d : Nat} {σ : hS} {a n0 : Nat} {v : Nat → Int32} (ha : σ.1 a = some (.inr (12, mFs n0 v))) {f : Nat → Int32} (hf : σ.1 (n0 + 0) = some (.inl (A 0, 6000, .inl f))) {ts : Nat} (hts : v 5 = nI ts) (h4 : ts + 4 ≤ 6000) {x : Int32} : Ct l D (h_ty A) B Z d mX12_lay σ [.ref a, .int x] (fun σ1 w => w = none ∧ σ1.1 a = some (.inr (12, mFs n0 (upd v 5 (nI (ts + 4))))) ∧ σ1.1 (n0 + 0) = some (.inl (A 0, 6000, .inl (l4 f ts x))) ∧ h_fr (fun q => q = a ∨ q = n0 + 0) σ σ1) := by
  have hne : a ≠ n0 + 0 := h_nk ha hf h_oa
  refine ct_of rfl hZ (Nat.le_of_ble_eq_true rfl) ?_
  show G _ _ _ _ _ _ _ _ _ _ 0 [(0, .ref a), (1, .int x)] []
  refine g_iconst (v := 0) dX12_lay_0 (by decide) ?_
  refine g_istore_n dX12_lay_1 rfl (by decide) rfl ?_
  refine g_iload_n dX12_lay_2 rfl (List.mem_of_getElem? (i := 0) rfl) ?_
  refine g_iconst (v := 4) dX12_lay_3 (by decide) ?_
  refine g_icmp_ge (tgt := 37) dX12_lay_4 (by decide) (fun c4 => absurd c4 (by decide)) (fun c4 => ?_)
  refine g_aload_n dX12_lay_7 rfl (List.mem_of_getElem? (i := 1) rfl) ?_
  refine g_get fX12_21 ha (v := .ref (n0 + 0)) (mFs_get (by decide) rfl) dX12_lay_8 ?_
  refine g_aload_n dX12_lay_11 rfl (List.mem_of_getElem? (i := 1) rfl) ?_
  refine g_get fX12_25 ha (v := .int (v 5)) (mFs_int (by decide) rfl) dX12_lay_12 ?_
  refine g_iload_n dX12_lay_15 rfl (List.mem_of_getElem? (i := 0) rfl) ?_
  refine g_iadd dX12_lay_16 ?_
  refine g_eqi (nI ts) (by rw [hts]; exact nI_add ts 0) ?_
  refine g_iload_n dX12_lay_17 rfl (List.mem_of_getElem? (i := 2) rfl) ?_
  refine g_bipush (v := 24) dX12_lay_18 (by decide) ?_
  refine g_bipush (v := 8) dX12_lay_20 (by decide) ?_
  refine g_iload_n dX12_lay_22 rfl (List.mem_of_getElem? (i := 0) rfl) ?_
  refine g_imul dX12_lay_23 ?_
  refine g_isub dX12_lay_24 ?_
  refine g_eqi (24) (by decide) ?_
  refine g_ishr dX12_lay_25 ?_
  refine g_sipush (v := 255) dX12_lay_26 (by decide) ?_
  refine g_iand dX12_lay_29 ?_
  refine g_iast (t0 := 0) rfl hf (vp_in_nI (by omega) (by decide)) dX12_lay_30 ?_
  refine g_iinc (v := 1) dX12_lay_31 (k := 0) rfl (by decide) (by decide) rfl ?_
  refine g_goto (tgt := 2) dX12_lay_34 (by decide) ?_
  refine g_iload_n dX12_lay_2 rfl (List.mem_of_getElem? (i := 0) rfl) ?_
  refine g_iconst (v := 4) dX12_lay_3 (by decide) ?_
  refine g_icmp_ge (tgt := 37) dX12_lay_4 (by decide) (fun c4 => absurd c4 (by decide)) (fun c4 => ?_)
  refine g_aload_n dX12_lay_7 rfl (List.mem_of_getElem? (i := 1) rfl) ?_
  refine g_get fX12_21 (h_n hne ha) (v := .ref (n0 + 0)) (mFs_get (by decide) rfl) dX12_lay_8 ?_
  refine g_aload_n dX12_lay_11 rfl (List.mem_of_getElem? (i := 1) rfl) ?_
  refine g_get fX12_25 (h_n hne ha) (v := .int (v 5)) (mFs_int (by decide) rfl) dX12_lay_12 ?_
  refine g_iload_n dX12_lay_15 rfl (List.mem_of_getElem? (i := 0) rfl) ?_
  refine g_iadd dX12_lay_16 ?_
  refine g_eqi (nI (ts + 1)) (by rw [hts]; exact nI_add ts 1) ?_
  refine g_iload_n dX12_lay_17 rfl (List.mem_of_getElem? (i := 2) rfl) ?_
  refine g_bipush (v := 24) dX12_lay_18 (by decide) ?_
  refine g_bipush (v := 8) dX12_lay_20 (by decide) ?_
  refine g_iload_n dX12_lay_22 rfl (List.mem_of_getElem? (i := 0) rfl) ?_
  refine g_imul dX12_lay_23 ?_
  refine g_isub dX12_lay_24 ?_
  refine g_eqi (16) (by decide) ?_
  refine g_ishr dX12_lay_25 ?_
  refine g_sipush (v := 255) dX12_lay_26 (by decide) ?_
  refine g_iand dX12_lay_29 ?_
  refine g_iast (t0 := 0) rfl h_e (vp_in_nI (by omega) (by decide)) dX12_lay_30 ?_
  refine g_iinc (v := 2) dX12_lay_31 (k := 0) rfl (by decide) (by decide) rfl ?_
  refine g_goto (tgt := 2) dX12_lay_34 (by decide) ?_
  refine g_iload_n dX12_lay_2 rfl (List.mem_of_getElem? (i := 0) rfl) ?_
  refine g_iconst (v := 4) dX12_lay_3 (by decide) ?_
  refine g_icmp_ge (tgt := 37) dX12_lay_4 (by decide) (fun c4 => absurd c4 (by decide)) (fun c4 => ?_)
  refine g_aload_n dX12_lay_7 rfl (List.mem_of_getElem? (i := 1) rfl) ?_
  refine g_get fX12_21 (h_n hne (h_n hne ha)) (v := .ref (n0 + 0)) (mFs_get (by decide) rfl) dX12_lay_8 ?_
  refine g_aload_n dX12_lay_11 rfl (List.mem_of_getElem? (i := 1) rfl) ?_
  refine g_get fX12_25 (h_n hne (h_n hne ha)) (v := .int (v 5)) (mFs_int (by decide) rfl) dX12_lay_12 ?_
  refine g_iload_n dX12_lay_15 rfl (List.mem_of_getElem? (i := 0) rfl) ?_
  refine g_iadd dX12_lay_16 ?_
  refine g_eqi (nI (ts + 2)) (by rw [hts]; exact nI_add ts 2) ?_
  refine g_iload_n dX12_lay_17 rfl (List.mem_of_getElem? (i := 2) rfl) ?_
  refine g_bipush (v := 24) dX12_lay_18 (by decide) ?_
  refine g_bipush (v := 8) dX12_lay_20 (by decide) ?_
  refine g_iload_n dX12_lay_22 rfl (List.mem_of_getElem? (i := 0) rfl) ?_
  refine g_imul dX12_lay_23 ?_
  refine g_isub dX12_lay_24 ?_
  refine g_eqi (8) (by decide) ?_
  refine g_ishr dX12_lay_25 ?_
  refine g_sipush (v := 255) dX12_lay_26 (by decide) ?_
  refine g_iand dX12_lay_29 ?_
  refine g_iast (t0 := 0) rfl h_e (vp_in_nI (by omega) (by decide)) dX12_lay_30 ?_
  refine g_iinc (v := 3) dX12_lay_31 (k := 0) rfl (by decide) (by decide) rfl ?_
  refine g_goto (tgt := 2) dX12_lay_34 (by decide) ?_
  refine g_iload_n dX12_lay_2 rfl (List.mem_of_getElem? (i := 0) rfl) ?_
  refine g_iconst (v := 4) dX12_lay_3 (by decide) ?_
  refine g_icmp_ge (tgt := 37) dX12_lay_4 (by decide) (fun c4 => absurd c4 (by decide)) (fun c4 => ?_)
  refine g_aload_n dX12_lay_7 rfl (List.mem_of_getElem? (i := 1) rfl) ?_
  refine g_get fX12_21 (h_n hne (h_n hne (h_n hne ha))) (v := .ref (n0 + 0)) (mFs_get (by decide) rfl) dX12_lay_8 ?_
  refine g_aload_n dX12_lay_11 rfl (List.mem_of_getElem? (i := 1) rfl) ?_
  refine g_get fX12_25 (h_n hne (h_n hne (h_n hne ha))) (v := .int (v 5)) (mFs_int (by decide) rfl) dX12_lay_12 ?_
  refine g_iload_n dX12_lay_15 rfl (List.mem_of_getElem? (i := 0) rfl) ?_
  refine g_iadd dX12_lay_16 ?_
  refine g_eqi (nI (ts + 3)) (by rw [hts]; exact nI_add ts 3) ?_
  refine g_iload_n dX12_lay_17 rfl (List.mem_of_getElem? (i := 2) rfl) ?_
  refine g_bipush (v := 24) dX12_lay_18 (by decide) ?_
  refine g_bipush (v := 8) dX12_lay_20 (by decide) ?_
  refine g_iload_n dX12_lay_22 rfl (List.mem_of_getElem? (i := 0) rfl) ?_
  refine g_imul dX12_lay_23 ?_
  refine g_isub dX12_lay_24 ?_
  refine g_eqi (0) (by decide) ?_
  refine g_ishr dX12_lay_25 ?_
  refine g_sipush (v := 255) dX12_lay_26 (by decide) ?_
  refine g_iand dX12_lay_29 ?_
  refine g_iast (t0 := 0) rfl h_e (vp_in_nI (by omega) (by decide)) dX12_lay_30 ?_
  refine g_iinc (v := 4) dX12_lay_31 (k := 0) rfl (by decide) (by decide) rfl ?_
  refine g_goto (tgt := 2) dX12_lay_34 (by decide) ?_
  refine g_iload_n dX12_lay_2 rfl (List.mem_of_getElem? (i := 0) rfl) ?_
  refine g_iconst (v := 4) dX12_lay_3 (by decide) ?_
  refine g_icmp_ge (tgt := 37) dX12_lay_4 (by decide) (fun c4 => ?_) (fun c4 => absurd (by decide) c4)
  refine g_aload_n dX12_lay_37 rfl (List.mem_of_getElem? (i := 1) rfl) ?_
  refine g_aload_n dX12_lay_38 rfl (List.mem_of_getElem? (i := 1) rfl) ?_
  refine g_get fX12_25 (h_n hne (h_n hne (h_n hne (h_n hne ha)))) (v := .int (v 5)) (mFs_int (by decide) rfl) dX12_lay_39 ?_
  refine g_iconst (v := 4) dX12_lay_42 (by decide) ?_
  refine g_iadd dX12_lay_43 ?_
  refine g_eqi (nI (ts + 4)) (by rw [hts]; exact nI_add ts 4) ?_
  refine g_putM (ft := .int) fX12_25 rfl rfl (h_n hne (h_n hne (h_n hne (h_n hne ha)))) (by decide +kernel) rfl rfl dX12_lay_44 ?_
  exact g_vret rfl dX12_lay_47 (⟨rfl, h_e, by have e : l4 f ts x = _ := (l4_eq h4).symm; rw [e]; exact (h_n (Ne.symm hne) h_e), ⟨fun q hq => h_n (fun h => hq (Or.inl h)) (h_n (fun h => hq (Or.inr h)) (h_n (fun h => hq (Or.inr h)) (h_n (fun h => hq (Or.inr h)) (h_n (fun h => hq (Or.inr h)) (rfl))))), rfl⟩⟩)
theorem upd_u (v : Nat → Int32) (k : Nat) (x y : Int32) : upd (upd v k x) k y = upd v k y := by
  funext j
  unfold upd
  by_cases h : j = k
  · rw [if_pos h, if_pos h]
  · rw [if_neg h, if_neg h, if_neg h]
set_option maxRecDepth 100000 in
set_option maxHeartbeats 4000000 in
/-- the reference: feed -/
theorem cm_feed {l : Launch} {D : va_G} {A : Nat → ClassId} {B : Nat} {Z : State → Heap → Prop} (hZ : h_st B Z) {d : Nat} {σ : hS} {a n0 : Nat} {v : Nat → Int32} (ha : σ.1 a = some (.inr (12, mFs n0 v))) {f : Nat → Int32} (hf : σ.1 (n0 + 0) = some (.inl (A 0, 6000, .inl f))) {ts : Nat} (hts : v 5 = nI ts) (h6 : ts ≤ 6000) (hd1 : 1 ≤ d) {x0 x1 x2 x3 x4 : Int32} : Ct l D (h_ty A) B Z d mX12_feed σ [.ref a, .int x0, .int x1, .int x2, .int x3, .int x4] (fun σ1 w => w = some (.int (if v 0 = 0 ∨ 5980 < ts then 0 else 1)) ∧ (if v 0 = 0 ∨ 5980 < ts then σ1.1 a = some (.inr (12, mFs n0 v)) ∧ σ1.1 (n0 + 0) = some (.inl (A 0, 6000, .inl f)) else σ1.1 a = some (.inr (12, mFs n0 (upd v 5 (nI (ts + 16 + 4))))) ∧ σ1.1 (n0 + 0) = some (.inl (A 0, 6000, .inl ((l4 (l4 (l4 (l4 (l4 f ts x0) (ts + 4) x1) (ts + 8) x2) (ts + 12) x3) (ts + 16) x4))))) ∧ h_fr (fun q => q = a ∨ q = n0 + 0) σ σ1) := by
  refine ct_of rfl hZ (Nat.le_of_ble_eq_true rfl) ?_
  show G _ _ _ _ _ _ _ _ _ _ 0 [(0, .ref a), (1, .int x0), (2, .int x1), (3, .int x2), (4, .int x3), (5, .int x4)] []
  refine g_aload_n dX12_feed_0 rfl (List.mem_of_getElem? (i := 0) rfl) ?_
  refine g_get fX12_7 ha (v := .int (v 0)) (mFs_int (by decide) rfl) dX12_feed_1 ?_
  refine g_if_eq (tgt := 20) dX12_feed_4 (by decide) (fun c4 => ?_) (fun c4 => ?_)
  · have hc : v 0 = 0 ∨ 5980 < ts := Or.inl c4
    refine g_iconst (v := 0) dX12_feed_20 (by decide) ?_
    exact g_zret rfl rfl dX12_feed_21 (⟨by rw [if_pos hc], by rw [if_pos hc]; exact ⟨ha, hf⟩, h_fr.rf⟩)
  · have c4 := c4
    refine g_aload_n dX12_feed_7 rfl (List.mem_of_getElem? (i := 0) rfl) ?_
    refine g_get fX12_25 ha (v := .int (v 5)) (mFs_int (by decide) rfl) dX12_feed_8 ?_
    refine g_bipush (v := 20) dX12_feed_11 (by decide) ?_
    refine g_iadd dX12_feed_13 ?_
    refine g_eqi (nI (ts + 20)) (by rw [hts]; exact nI_add ts 20) ?_
    refine g_sipush (v := 6000) dX12_feed_14 (by decide) ?_
    refine g_icmp_le (tgt := 22) dX12_feed_17 (by decide) (fun c17 => ?_) (fun c17 => ?_)
    · have h14 : ts + 20 ≤ 6000 := (nI_leI (a := ts + 20) (b := 6000) (by omega) (by decide)).mp c17
      have hc : ¬ (v 0 = 0 ∨ 5980 < ts) := fun h => h.elim c4 (fun h => by omega)
      refine g_aload_n dX12_feed_22 rfl (List.mem_of_getElem? (i := 0) rfl) ?_
      refine g_iload_n dX12_feed_23 rfl (List.mem_of_getElem? (i := 1) rfl) ?_
      refine g_cv (d1 := 0) (As := [.int x0]) (st := []) (cm_lay hZ ha hf (ts := ts) hts (by omega)) (h_rcO (r := (RX12, TX12, 153)) ha rfl) kX12_lay lX12_28 sX12_lay (by omega) (Nat.le_of_ble_eq_true rfl) dX12_feed_24 (fun τ24 v24 h24 z24 => ?_)
      obtain ⟨rfl, ga0, gt0, gf0⟩ := h24
      show G _ _ _ _ _ _ _ _ _ _ 27 [(0, .ref a), (1, .int x0), (2, .int x1), (3, .int x2), (4, .int x3), (5, .int x4)] []
      refine g_aload_n dX12_feed_27 rfl (List.mem_of_getElem? (i := 0) rfl) ?_
      refine g_iload_n dX12_feed_28 rfl (List.mem_of_getElem? (i := 2) rfl) ?_
      refine g_cv (d1 := 0) (As := [.int x1]) (st := []) (cm_lay hZ ga0 gt0 (ts := (ts + 4)) pk_us (by omega)) (h_rcO (r := (RX12, TX12, 153)) ga0 rfl) kX12_lay lX12_28 sX12_lay (by omega) (Nat.le_of_ble_eq_true rfl) dX12_feed_29 (fun τ29 v29 h29 z29 => ?_)
      obtain ⟨rfl, ga1, gt1, gf1⟩ := h29
      show G _ _ _ _ _ _ _ _ _ _ 32 [(0, .ref a), (1, .int x0), (2, .int x1), (3, .int x2), (4, .int x3), (5, .int x4)] []
      refine g_aload_n dX12_feed_32 rfl (List.mem_of_getElem? (i := 0) rfl) ?_
      refine g_iload_n dX12_feed_33 rfl (List.mem_of_getElem? (i := 3) rfl) ?_
      refine g_cv (d1 := 0) (As := [.int x2]) (st := []) (cm_lay hZ ga1 gt1 (ts := (ts + 8)) pk_us (by omega)) (h_rcO (r := (RX12, TX12, 153)) ga1 rfl) kX12_lay lX12_28 sX12_lay (by omega) (Nat.le_of_ble_eq_true rfl) dX12_feed_34 (fun τ34 v34 h34 z34 => ?_)
      obtain ⟨rfl, ga2, gt2, gf2⟩ := h34
      show G _ _ _ _ _ _ _ _ _ _ 37 [(0, .ref a), (1, .int x0), (2, .int x1), (3, .int x2), (4, .int x3), (5, .int x4)] []
      refine g_aload_n dX12_feed_37 rfl (List.mem_of_getElem? (i := 0) rfl) ?_
      refine g_iload dX12_feed_38 (List.mem_of_getElem? (i := 4) rfl) ?_
      refine g_cv (d1 := 0) (As := [.int x3]) (st := []) (cm_lay hZ ga2 gt2 (ts := (ts + 12)) pk_us (by omega)) (h_rcO (r := (RX12, TX12, 153)) ga2 rfl) kX12_lay lX12_28 sX12_lay (by omega) (Nat.le_of_ble_eq_true rfl) dX12_feed_40 (fun τ40 v40 h40 z40 => ?_)
      obtain ⟨rfl, ga3, gt3, gf3⟩ := h40
      show G _ _ _ _ _ _ _ _ _ _ 43 [(0, .ref a), (1, .int x0), (2, .int x1), (3, .int x2), (4, .int x3), (5, .int x4)] []
      refine g_aload_n dX12_feed_43 rfl (List.mem_of_getElem? (i := 0) rfl) ?_
      refine g_iload dX12_feed_44 (List.mem_of_getElem? (i := 5) rfl) ?_
      refine g_cv (d1 := 0) (As := [.int x4]) (st := []) (cm_lay hZ ga3 gt3 (ts := (ts + 16)) pk_us (by omega)) (h_rcO (r := (RX12, TX12, 153)) ga3 rfl) kX12_lay lX12_28 sX12_lay (by omega) (Nat.le_of_ble_eq_true rfl) dX12_feed_46 (fun τ46 v46 h46 z46 => ?_)
      obtain ⟨rfl, ga4, gt4, gf4⟩ := h46
      show G _ _ _ _ _ _ _ _ _ _ 49 [(0, .ref a), (1, .int x0), (2, .int x1), (3, .int x2), (4, .int x3), (5, .int x4)] []
      refine g_iconst (v := 1) dX12_feed_49 (by decide) ?_
      exact g_zret rfl rfl dX12_feed_50 (⟨by rw [if_neg hc], by rw [if_neg hc]; exact ⟨by rw [upd_u, upd_u, upd_u, upd_u] at ga4; exact ga4, gt4⟩, gf0.tr (gf1.tr (gf2.tr (gf3.tr gf4)))⟩)
    · have hc : v 0 = 0 ∨ 5980 < ts := Or.inr (Nat.lt_of_not_le fun h => c17 ((nI_leI (a := ts + 20) (b := 6000) (by omega) (by decide)).mpr (by omega)))
      refine g_iconst (v := 0) dX12_feed_20 (by decide) ?_
      exact g_zret rfl rfl dX12_feed_21 (⟨by rw [if_pos hc], by rw [if_pos hc]; exact ⟨ha, hf⟩, h_fr.rf⟩)
