abbrev mX9_init : hM := (yX9_init, cX9_init, 3, none)
theorem dX9_init_0 : decode cX9_init 0 = .ok (.aload_n 0, 1) := by decide +kernel
theorem dX9_init_1 : decode cX9_init 1 = .ok (.invokespecial 3, 3) := by decide +kernel
theorem lX9_3 : Cond.methodLink RX9 3 objectInit ∈ lw_g := h_t1 55 rfl rfl
theorem dX9_init_4 : decode cX9_init 4 = .ok (.aload_n 0, 1) := by decide +kernel
theorem dX9_init_5 : decode cX9_init 5 = .ok (.iload_n 2, 1) := by decide +kernel
theorem dX9_init_6 : decode cX9_init 6 = .ok (.newarray .byte, 2) := by decide +kernel
theorem ac_byte : Cond.arrayClass .byte ∈ lw_g := h_t1 109 rfl rfl
theorem dX9_init_8 : decode cX9_init 8 = .ok (.putfield 9, 3) := by decide +kernel
theorem fX9_9 : h_fl RX9 9 9 0 RX9 TX9 6 := ⟨rfl, by decide, inX9, h_t1 56 rfl rfl⟩
theorem dX9_init_11 : decode cX9_init 11 = .ok (.aload_n 0, 1) := by decide +kernel
theorem dX9_init_12 : decode cX9_init 12 = .ok (.iload_n 1, 1) := by decide +kernel
theorem dX9_init_13 : decode cX9_init 13 = .ok (.newarray .int, 2) := by decide +kernel
theorem ac_int : Cond.arrayClass .int ∈ lw_g := h_t1 110 rfl rfl
theorem dX9_init_15 : decode cX9_init 15 = .ok (.putfield 13, 3) := by decide +kernel
theorem fX9_13 : h_fl RX9 13 9 1 RX9 TX9 6 := ⟨rfl, by decide, inX9, h_t1 64 rfl rfl⟩
theorem dX9_init_18 : decode cX9_init 18 = .ok (.aload_n 0, 1) := by decide +kernel
theorem dX9_init_19 : decode cX9_init 19 = .ok (.iload_n 1, 1) := by decide +kernel
theorem dX9_init_20 : decode cX9_init 20 = .ok (.newarray .int, 2) := by decide +kernel
theorem dX9_init_22 : decode cX9_init 22 = .ok (.putfield 17, 3) := by decide +kernel
theorem fX9_17 : h_fl RX9 17 9 2 RX9 TX9 6 := ⟨rfl, by decide, inX9, h_t1 72 rfl rfl⟩
theorem dX9_init_25 : decode cX9_init 25 = .ok (.return_, 1) := by decide +kernel
set_option maxRecDepth 100000 in
set_option maxHeartbeats 4000000 in
/-- Texts(most, bytes): three rows -/
theorem ct_T_init {l : Launch} {D : va_G} {A : Nat → ClassId} {B : Nat} {Z : State → Heap → Prop} (hZ : h_st B Z) {d : Nat} (hd1 : 1 ≤ d) {σ : hS} {a n0 s0 mo by_ : Nat} (z0 : σ.2.1 = n0) (y0 : σ.2.2 = s0) (ha : σ.1 a = some (.inr (9, [.null, .null, .null, .int 0, .int 0, .int 0]))) (hm : mo ≤ 10000 ∧ by_ ≤ 10000) (r1 : n0 + 3 ≤ B + 600000) (r2 : s0 + by_ + mo + mo ≤ 7302250) : Ct l D (h_ty A) B Z d mX9_init σ [.ref a, .int (nI mo), .int (nI by_)] (fun σ1 v => v = none ∧ cgr σ σ1 a 3 (by_ + mo + mo) ∧ σ1.1 a = some (.inr (9, [.ref n0, .ref (n0 + 1), .ref (n0 + 2), .int 0, .int 0, .int 0])) ∧ σ1.1 n0 = some (.inl (A 1, by_, .inl (fun _ => 0))) ∧ σ1.1 (n0 + 1) = some (.inl (A 0, mo, .inl (fun _ => 0))) ∧ σ1.1 (n0 + 2) = some (.inl (A 0, mo, .inl (fun _ => 0)))) := by
  have hCN : h_CN = 600000 := rfl
  have hCK : h_CK = 7302250 := rfl
  refine ct_of rfl hZ (Nat.le_of_ble_eq_true rfl) ?_
  show G _ _ _ _ _ _ _ _ _ _ 0 [(0, .ref a), (1, .int (nI mo)), (2, .int (nI by_))] []
  refine g_bd (fun hB1 hB2 hB3 hlt => ?_)
  have hla := hlt a _ ha
  refine g_aload_n dX9_init_0 rfl (List.mem_of_getElem? (i := 0) rfl) ?_
  refine g_obj lX9_3 h_oi h_oc (by omega) (Nat.le_of_ble_eq_true rfl) dX9_init_1 ?_
  refine g_aload_n dX9_init_4 rfl (List.mem_of_getElem? (i := 0) rfl) ?_
  refine g_iload_n dX9_init_5 rfl (List.mem_of_getElem? (i := 2) rfl) ?_
  refine g_newa (t0 := 1) (N := by_) (f := .inl (fun _ => 0)) rfl rfl (fun _ h => h) ac_byte rfl (nI_pos (by omega)) (nI_clamp (by omega)) (by show by_ * 1 ≤ _; omega) (by omega) (by omega) dX9_init_6 ?_
  refine g_eqv (.ref (n0)) (by rw [z0]) ?_
  refine g_gen (fun τ1 e1 => ?_)
  have z1 : τ1.2.1 = n0 + 1 := by rw [e1]; show _ + 1 = _; omega
  have y1 : τ1.2.2 = s0 + by_ := by rw [e1]; show _ + _ = _; omega
  refine g_put (ft := (.array .byte)) fX9_9 ptX9 (Or.inr ⟨rfl, rfl, rfl⟩) (h_nN e1 z0 (by omega) ha) (by decide +kernel) rfl rfl (Nat.le_of_ble_eq_true rfl) dX9_init_8 ?_
  refine g_gen (fun τ2 e2 => ?_)
  have z2 : τ2.2.1 = n0 + 1 := by rw [e2]; exact z1
  have y2 : τ2.2.2 = s0 + by_ := by rw [e2]; exact y1
  refine g_aload_n dX9_init_11 rfl (List.mem_of_getElem? (i := 0) rfl) ?_
  refine g_iload_n dX9_init_12 rfl (List.mem_of_getElem? (i := 1) rfl) ?_
  refine g_newa (t0 := 0) (N := mo) (f := .inl (fun _ => 0)) rfl rfl (fun _ h => h) ac_int rfl (nI_pos (by omega)) (nI_clamp (by omega)) (by show mo * 4 ≤ _; omega) (by omega) (by omega) dX9_init_13 ?_
  refine g_eqv (.ref (n0 + 1)) (by rw [z2]) ?_
  refine g_gen (fun τ3 e3 => ?_)
  have z3 : τ3.2.1 = n0 + 2 := by rw [e3]; show _ + 1 = _; omega
  have y3 : τ3.2.2 = s0 + by_ + mo := by rw [e3]; show _ + _ = _; omega
  refine g_put (ft := (.array .int)) fX9_13 ptX9 (Or.inr ⟨rfl, rfl, rfl⟩) (h_nN e3 z2 (by omega) (h_eS e2)) (by decide +kernel) rfl rfl (Nat.le_of_ble_eq_true rfl) dX9_init_15 ?_
  refine g_gen (fun τ4 e4 => ?_)
  have z4 : τ4.2.1 = n0 + 2 := by rw [e4]; exact z3
  have y4 : τ4.2.2 = s0 + by_ + mo := by rw [e4]; exact y3
  refine g_aload_n dX9_init_18 rfl (List.mem_of_getElem? (i := 0) rfl) ?_
  refine g_iload_n dX9_init_19 rfl (List.mem_of_getElem? (i := 1) rfl) ?_
  refine g_newa (t0 := 0) (N := mo) (f := .inl (fun _ => 0)) rfl rfl (fun _ h => h) ac_int rfl (nI_pos (by omega)) (nI_clamp (by omega)) (by show mo * 4 ≤ _; omega) (by omega) (by omega) dX9_init_20 ?_
  refine g_eqv (.ref (n0 + 2)) (by rw [z4]) ?_
  refine g_gen (fun τ5 e5 => ?_)
  have z5 : τ5.2.1 = n0 + 3 := by rw [e5]; show _ + 1 = _; omega
  have y5 : τ5.2.2 = s0 + by_ + mo + mo := by rw [e5]; show _ + _ = _; omega
  refine g_put (ft := (.array .int)) fX9_17 ptX9 (Or.inr ⟨rfl, rfl, rfl⟩) (h_nN e5 z4 (by omega) (h_eS e4)) (by decide +kernel) rfl rfl (Nat.le_of_ble_eq_true rfl) dX9_init_22 ?_
  refine g_gen (fun τ6 e6 => ?_)
  have z6 : τ6.2.1 = n0 + 3 := by rw [e6]; exact z5
  have y6 : τ6.2.2 = s0 + by_ + mo + mo := by rw [e6]; exact y5
  exact g_vret rfl dX9_init_25 (⟨rfl, ⟨by omega, by omega, fun q h1 h2 => (h_nS e6 h1 (h_nN e5 z4 (by omega) (h_nS e4 h1 (h_nN e3 z2 (by omega) (h_nS e2 h1 (h_nN e1 z0 (by omega) rfl))))))⟩, (h_eS e6), (h_nS e6 (by omega) (h_nN e5 z4 (by omega) (h_nS e4 (by omega) (h_nN e3 z2 (by omega) (h_nS e2 (by omega) (h_eN e1 z0)))))), (h_nS e6 (by omega) (h_nN e5 z4 (by omega) (h_nS e4 (by omega) (h_eN e3 z2)))), (h_nS e6 (by omega) (h_eN e5 z4))⟩)
