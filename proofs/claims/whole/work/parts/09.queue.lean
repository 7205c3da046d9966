set_option maxRecDepth 100000 in
set_option maxHeartbeats 4000000 in
/-- Queue.put: a byte more waits, if there is room -/
theorem ct_Q_put {l : Launch} {D : va_G} {A : Nat → ClassId} {B : Nat} {Z : State → Heap → Prop} (hZ : h_st B Z) {d : Nat} {σ : hS} {a row : Nat} {xs : List Int32} {b : Int32} (hq : qAt A σ a row xs) : Ct l D (h_ty A) B Z d mX5_put σ [.ref a, .int b] (fun σ1 v => v = none ∧ qAt A σ1 a row (q_add xs b) ∧ h_fr (fun q => q = a ∨ q = row) σ σ1) := by
  have hne := q_ne hq
  obtain ⟨fi, f, h1, h2, ha, hr, hf⟩ := id hq
  refine ct_of rfl hZ (Nat.le_of_ble_eq_true rfl) ?_
  show G _ _ _ _ _ _ _ _ _ _ 0 [(0, .ref a), (1, .int b)] []
  refine g_aload_n dX5_put_0 rfl (List.mem_of_getElem? (i := 0) rfl) ?_
  refine g_get fX5_13 ha (v := .int (nI xs.length)) rfl dX5_put_1 ?_
  refine g_sipush (v := 10000) dX5_put_4 (by decide) ?_
  refine g_icmp_ge (tgt := 40) dX5_put_7 (by decide) (fun c7 => ?_) (fun c7 => ?_)
  · have c7 : 10000 ≤ xs.length := (nI_leI (by decide) (by omega)).mp c7
    exact g_vret rfl dX5_put_40 (⟨rfl, by unfold q_add; rw [if_neg (by omega)]; exact hq, h_fr.rf⟩)
  · have c7 : ¬ 10000 ≤ xs.length := fun h => c7 ((nI_leI (by decide) (by omega)).mpr h)
    refine g_aload_n dX5_put_10 rfl (List.mem_of_getElem? (i := 0) rfl) ?_
    refine g_get fX5_9 ha (v := .ref row) rfl dX5_put_11 ?_
    refine g_aload_n dX5_put_14 rfl (List.mem_of_getElem? (i := 0) rfl) ?_
    refine g_get fX5_17 ha (v := .int (nI fi)) rfl dX5_put_15 ?_
    refine g_aload_n dX5_put_18 rfl (List.mem_of_getElem? (i := 0) rfl) ?_
    refine g_get fX5_13 ha (v := .int (nI xs.length)) rfl dX5_put_19 ?_
    refine g_iadd dX5_put_22 ?_
    refine g_sipush (v := 10000) dX5_put_23 (by decide) ?_
    refine g_irem dX5_put_26 (by decide) ?_
    refine g_eqi (nI ((fi + xs.length) % 10000)) (by rw [nI_add]; exact pk_rem (by omega) (by decide) (by decide)) ?_
    refine g_iload_n dX5_put_27 rfl (List.mem_of_getElem? (i := 1) rfl) ?_
    refine g_i2b dX5_put_28 rfl ?_
    refine g_bast (t0 := 1) rfl hr (vp_in_nI (Nat.mod_lt _ (by decide)) (by decide)) dX5_put_29 ?_
    refine g_aload_n dX5_put_30 rfl (List.mem_of_getElem? (i := 0) rfl) ?_
    refine g_dup dX5_put_31 rfl ?_
    refine g_get fX5_13 (h_n hne ha) (v := .int (nI xs.length)) rfl dX5_put_32 ?_
    refine g_iconst (v := 1) dX5_put_35 (by decide) ?_
    refine g_iadd dX5_put_36 ?_
    refine g_put (ft := .int) fX5_13 ptX5 (Or.inl rfl) (h_n hne ha) (by decide +kernel) rfl rfl (Nat.le_of_ble_eq_true rfl) dX5_put_37 ?_
    exact g_vret rfl dX5_put_40 (⟨rfl, q_add_ok h1 (by omega) hf h_e (h_n (Ne.symm hne) h_e), ⟨fun q hq => h_n (fun h => hq (Or.inl h)) (h_n (fun h => hq (Or.inr h)) rfl), rfl⟩⟩)
