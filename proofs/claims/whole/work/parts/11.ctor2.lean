abbrev mX10_init : hM := (yX10_init, cX10_init, 1, none)
theorem dX10_init_0 : decode cX10_init 0 = .ok (.aload_n 0, 1) := by decide +kernel
theorem dX10_init_1 : decode cX10_init 1 = .ok (.invokespecial 1, 3) := by decide +kernel
theorem lX10_1 : Cond.methodLink RX10 1 objectInit ∈ lw_g := h_t2 67 rfl rfl
theorem dX10_init_4 : decode cX10_init 4 = .ok (.aload_n 0, 1) := by decide +kernel
theorem dX10_init_5 : decode cX10_init 5 = .ok (.iconst 4, 1) := by decide +kernel
theorem dX10_init_6 : decode cX10_init 6 = .ok (.anewarray 9, 3) := by decide +kernel
theorem aX10_9 : Cond.classLink RX10 9 RX1 ∈ lw_g := h_t2 68 rfl rfl
theorem dX10_init_9 : decode cX10_init 9 = .ok (.putfield 11, 3) := by decide +kernel
theorem fX10_11 : h_fl RX10 11 10 0 RX10 TX10 6 := ⟨rfl, by decide, inX10, h_t2 132 rfl rfl⟩
theorem dX10_init_12 : decode cX10_init 12 = .ok (.aload_n 0, 1) := by decide +kernel
theorem dX10_init_13 : decode cX10_init 13 = .ok (.bipush 40, 2) := by decide +kernel
theorem dX10_init_15 : decode cX10_init 15 = .ok (.anewarray 9, 3) := by decide +kernel
theorem dX10_init_18 : decode cX10_init 18 = .ok (.putfield 15, 3) := by decide +kernel
theorem fX10_15 : h_fl RX10 15 10 1 RX10 TX10 6 := ⟨rfl, by decide, inX10, h_t2 134 rfl rfl⟩
theorem dX10_init_21 : decode cX10_init 21 = .ok (.aload_n 0, 1) := by decide +kernel
theorem dX10_init_22 : decode cX10_init 22 = .ok (.new 18, 3) := by decide +kernel
theorem nX10_18 : h_nl RX10 18 9 RX9 TX9 6 fsX9 := ⟨rfl, inX9, ⟨tyX9, tyX9_ok, by decide +kernel⟩, h_t2 69 rfl rfl, h_t1 51 rfl rfl, h_t1 4 rfl rfl⟩
theorem dX10_init_25 : decode cX10_init 25 = .ok (.dup, 1) := by decide +kernel
theorem dX10_init_26 : decode cX10_init 26 = .ok (.bipush 6, 2) := by decide +kernel
theorem dX10_init_28 : decode cX10_init 28 = .ok (.bipush 120, 2) := by decide +kernel
theorem dX10_init_30 : decode cX10_init 30 = .ok (.invokespecial 20, 3) := by decide +kernel
theorem lX10_20 : Cond.methodLink RX10 20 mX9_init.1 ∈ lw_g := h_t2 70 rfl rfl
theorem dX10_init_33 : decode cX10_init 33 = .ok (.putfield 23, 3) := by decide +kernel
theorem fX10_23 : h_fl RX10 23 10 2 RX10 TX10 6 := ⟨rfl, by decide, inX10, h_t2 135 rfl rfl⟩
theorem dX10_init_36 : decode cX10_init 36 = .ok (.aload_n 0, 1) := by decide +kernel
theorem dX10_init_37 : decode cX10_init 37 = .ok (.getfield 23, 3) := by decide +kernel
theorem dX10_init_40 : decode cX10_init 40 = .ok (.ldc 27, 2) := by decide +kernel
theorem dX10_init_42 : decode cX10_init 42 = .ok (.invokevirtual 29, 3) := by decide +kernel
theorem kX9_putText : h_ml mX9_putText 1 := ⟨h_t2 75 rfl rfl, h_t1 4 rfl rfl, ⟨by decide, by decide, by decide +kernel⟩, by decide⟩
theorem sX9_putText : Cond.instanceMethod mX9_putText.1 ∈ lw_g ∧ Cond.selects mX9_putText.1.cls mX9_putText.1 mX9_putText.1 ∈ lw_g := ⟨h_t2 73 rfl rfl, h_t2 74 rfl rfl⟩
theorem lX10_29 : Cond.methodLink RX10 29 mX9_putText.1 ∈ lw_g := h_t2 72 rfl rfl
theorem dX10_init_45 : decode cX10_init 45 = .ok (.aload_n 0, 1) := by decide +kernel
theorem dX10_init_46 : decode cX10_init 46 = .ok (.getfield 23, 3) := by decide +kernel
theorem dX10_init_49 : decode cX10_init 49 = .ok (.invokevirtual 33, 3) := by decide +kernel
theorem kX9_close : h_ml mX9_close 0 := ⟨h_t2 131 rfl rfl, h_t1 4 rfl rfl, ⟨by decide, by decide, by decide +kernel⟩, by decide⟩
theorem sX9_close : Cond.instanceMethod mX9_close.1 ∈ lw_g ∧ Cond.selects mX9_close.1.cls mX9_close.1 mX9_close.1 ∈ lw_g := ⟨h_t2 129 rfl rfl, h_t2 130 rfl rfl⟩
theorem lX10_33 : Cond.methodLink RX10 33 mX9_close.1 ∈ lw_g := h_t2 128 rfl rfl
theorem dX10_init_52 : decode cX10_init 52 = .ok (.return_, 1) := by decide +kernel
abbrev mX4_init : hM := (yX4_init, cX4_init, 2, none)
theorem dX4_init_0 : decode cX4_init 0 = .ok (.aload_n 0, 1) := by decide +kernel
theorem dX4_init_1 : decode cX4_init 1 = .ok (.invokespecial 1, 3) := by decide +kernel
theorem lX4_1 : Cond.methodLink RX4 1 objectInit ∈ lw_g := h_t1 43 rfl rfl
theorem dX4_init_4 : decode cX4_init 4 = .ok (.aload_n 0, 1) := by decide +kernel
theorem dX4_init_5 : decode cX4_init 5 = .ok (.new 7, 3) := by decide +kernel
def fsX2 : List Value := [.null, .null, .int 0, .int 0, .int 0, .int 0, .int 0, .int 0, .int 0]
theorem nX4_7 : h_nl RX4 7 2 RX2 TX2 9 fsX2 := ⟨rfl, inX2, ⟨tyX2, tyX2_ok, by decide +kernel⟩, h_t1 44 rfl rfl, h_t1 45 rfl rfl, h_t1 3 rfl rfl⟩
theorem dX4_init_8 : decode cX4_init 8 = .ok (.dup, 1) := by decide +kernel
theorem dX4_init_9 : decode cX4_init 9 = .ok (.invokespecial 9, 3) := by decide +kernel
theorem kX2_init : h_ml mX2_init 0 := ⟨h_t1 48 rfl rfl, h_t1 3 rfl rfl, ⟨by decide, by decide, by decide +kernel⟩, by decide⟩
theorem sX2_init : mX2_init.1.name = "<init>" ∧ Cond.instanceMethod mX2_init.1 ∈ lw_g := ⟨rfl, h_t1 47 rfl rfl⟩
theorem dX4_init_12 : decode cX4_init 12 = .ok (.putfield 10, 3) := by decide +kernel
theorem fX4_10 : h_fl RX4 10 4 0 RX4 TX4 9 := ⟨rfl, by decide, inX4, h_t1 222 rfl rfl⟩
theorem dX4_init_15 : decode cX4_init 15 = .ok (.aload_n 0, 1) := by decide +kernel
theorem dX4_init_16 : decode cX4_init 16 = .ok (.sipush 320, 3) := by decide +kernel
theorem dX4_init_19 : decode cX4_init 19 = .ok (.anewarray 16, 3) := by decide +kernel
theorem aX4_16 : Cond.classLink RX4 16 RX3 ∈ lw_g := h_t1 144 rfl rfl
theorem dX4_init_22 : decode cX4_init 22 = .ok (.putfield 18, 3) := by decide +kernel
theorem fX4_18 : h_fl RX4 18 4 1 RX4 TX4 9 := ⟨rfl, by decide, inX4, h_t1 225 rfl rfl⟩
theorem dX4_init_25 : decode cX4_init 25 = .ok (.aload_n 0, 1) := by decide +kernel
theorem dX4_init_26 : decode cX4_init 26 = .ok (.bipush 120, 2) := by decide +kernel
theorem dX4_init_28 : decode cX4_init 28 = .ok (.newarray .int, 2) := by decide +kernel
theorem dX4_init_30 : decode cX4_init 30 = .ok (.putfield 22, 3) := by decide +kernel
theorem fX4_22 : h_fl RX4 22 4 3 RX4 TX4 9 := ⟨rfl, by decide, inX4, h_t1 229 rfl rfl⟩
theorem dX4_init_33 : decode cX4_init 33 = .ok (.aload_n 0, 1) := by decide +kernel
theorem dX4_init_34 : decode cX4_init 34 = .ok (.bipush 120, 2) := by decide +kernel
theorem dX4_init_36 : decode cX4_init 36 = .ok (.newarray .int, 2) := by decide +kernel
theorem dX4_init_38 : decode cX4_init 38 = .ok (.putfield 26, 3) := by decide +kernel
theorem fX4_26 : h_fl RX4 26 4 4 RX4 TX4 9 := ⟨rfl, by decide, inX4, h_t1 230 rfl rfl⟩
theorem dX4_init_41 : decode cX4_init 41 = .ok (.iconst 0, 1) := by decide +kernel
theorem dX4_init_42 : decode cX4_init 42 = .ok (.istore_n 1, 1) := by decide +kernel
theorem dX4_init_43 : decode cX4_init 43 = .ok (.iload_n 1, 1) := by decide +kernel
theorem dX4_init_44 : decode cX4_init 44 = .ok (.sipush 320, 3) := by decide +kernel
theorem dX4_init_47 : decode cX4_init 47 = .ok (.if_icmp .ge 22, 3) := by decide +kernel
theorem dX4_init_50 : decode cX4_init 50 = .ok (.aload_n 0, 1) := by decide +kernel
theorem dX4_init_51 : decode cX4_init 51 = .ok (.getfield 18, 3) := by decide +kernel
theorem dX4_init_54 : decode cX4_init 54 = .ok (.iload_n 1, 1) := by decide +kernel
theorem dX4_init_55 : decode cX4_init 55 = .ok (.new 16, 3) := by decide +kernel
def fsX3 : List Value := [.int 0, .int 0, .int 0, .int 0, .int 0, .int 0, .int 0, .int 0, .int 0, .int 0, .int 0, .int 0, .int 0, .null, .null]
theorem nX4_16 : h_nl RX4 16 3 RX3 TX3 15 fsX3 := ⟨rfl, inX3, ⟨tyX3, tyX3_ok, by decide +kernel⟩, h_t1 144 rfl rfl, h_t1 146 rfl rfl, h_t1 5 rfl rfl⟩
theorem dX4_init_58 : decode cX4_init 58 = .ok (.dup, 1) := by decide +kernel
theorem dX4_init_59 : decode cX4_init 59 = .ok (.invokespecial 29, 3) := by decide +kernel
theorem kX3_init : h_ml mX3_init 0 := ⟨h_t1 149 rfl rfl, h_t1 5 rfl rfl, ⟨by decide, by decide, by decide +kernel⟩, by decide⟩
theorem sX3_init : mX3_init.1.name = "<init>" ∧ Cond.instanceMethod mX3_init.1 ∈ lw_g := ⟨rfl, h_t1 148 rfl rfl⟩
theorem dX4_init_62 : decode cX4_init 62 = .ok (.aastore, 1) := by decide +kernel
theorem dX4_init_63 : decode cX4_init 63 = .ok (.iinc 1 1, 3) := by decide +kernel
theorem dX4_init_66 : decode cX4_init 66 = .ok (.goto (-23), 3) := by decide +kernel
theorem dX4_init_69 : decode cX4_init 69 = .ok (.return_, 1) := by decide +kernel
def IBX : List Nat := [73, 78, 66, 79, 88]
theorem IBX_b : ∀ b ∈ IBX, b < 128 := by decide
/-- a fresh list of texts, as a list of texts -/
theorem tx_0 {A : Nat → ClassId} {σ : hS} {a r fr to_ by_ mo : Nat} (h1 : σ.1 a = some (.inr (9, [.ref r, .ref fr, .ref to_, .int 0, .int 0, .int 0]))) (h2 : σ.1 r = some (.inl (A 1, by_, .inl (fun _ => 0)))) (h3 : σ.1 fr = some (.inl (A 0, mo, .inl (fun _ => 0)))) (h4 : σ.1 to_ = some (.inl (A 0, mo, .inl (fun _ => 0)))) (hx : fr ≠ to_ ∧ r ≠ fr ∧ r ≠ to_) (hc : by_ ≤ 10000) (hm : mo ≤ 10000) : txA A σ a r fr to_ by_ mo (fun _ => 0) (fun _ => 0) (fun _ => 0) 0 0 0 := ⟨h1, h2, h3, h4, hx, hc, hm, Nat.zero_le _, Nat.zero_le _, Nat.le_refl _⟩
set_option maxRecDepth 100000 in
set_option maxHeartbeats 4000000 in
/-- User() -/
theorem ct_X10_init {l : Launch} {D : va_G} {A : Nat → ClassId} {B : Nat} {Z : State → Heap → Prop} {vF : Value} (hs : zs B Z vF) (hao : ∀ (U : State) (H : Heap), Z U H → va_AO RX5 U ∧ va_AO RX8 U ∧ va_AO RX10 U ∧ va_AO RX1 U ∧ va_AO RX3 U) {sq sw : Nat} (hsk : ∀ (U : State) (H : Heap), Z U H → vk_R RX10 27 "INBOX" sq U) (hib : sC B Z sq sw IBX) {d : Nat} (hd1 : 5 ≤ d) {σ : hS} {a n0 s0 : Nat} (z0 : σ.2.1 = n0) (y0 : σ.2.2 = s0) (ha : σ.1 a = some (.inr (10, [.null, .null, .null, .int 0, .int 0, .null]))) (r1 : n0 + 6 ≤ B + 600000) (r2 : s0 + 182 ≤ 7302250) : Ct l D (h_ty A) B Z d mX10_init σ [.ref a] (fun σ1 v => v = none ∧ cgr σ σ1 a 6 182 ∧ σ1.1 (a) = some (.inr (10, [.ref (n0 + 0), .ref (n0 + 1), .ref (n0 + 2), .int 0, .int 0, .null])) ∧ σ1.1 (n0 + 0) = some (.inl (A 7, 4, .inr (.inr (.inr (.inr (fun _ => none)))))) ∧ σ1.1 (n0 + 1) = some (.inl (A 7, 40, .inr (.inr (.inr (.inr (fun _ => none)))))) ∧ txA A σ1 (n0 + 2) (n0 + 3) (n0 + 4) (n0 + 5) 120 6 (t_puts 120 (fun _ => 0, 0) IBX).1 (upd (fun _ => 0) 0 (nI 0)) (upd (fun _ => 0) 0 (nI 5)) 1 5 5) := by
  refine ct_of rfl hs.1 (Nat.le_of_ble_eq_true rfl) ?_
  show G _ _ _ _ _ _ _ _ _ _ 0 [(0, .ref a)] []
  refine g_bd (fun hB1 hB2 hB3 hlt => ?_)
  have hla : a < n0 := h_lq (hlt a _ ha) z0
  refine g_aload_n dX10_init_0 rfl (List.mem_of_getElem? (i := 0) rfl) ?_
  refine g_obj lX10_1 h_oi h_oc (by omega) (Nat.le_of_ble_eq_true rfl) dX10_init_1 ?_
  refine g_aload_n dX10_init_4 rfl (List.mem_of_getElem? (i := 0) rfl) ?_
  refine g_iconst (v := 4) dX10_init_5 (by decide) ?_
  refine g_anew (t0 := 7) (N := 4) rfl aX10_9 (fun U H hz => (hao U H hz).2.2.2.1) (by decide) (nI_clamp (n := 4) (by decide)) (by decide) (h_r1 (m := 0) z0 r1 (by decide)) (h_r2 (m := 0) y0 r2 (by decide)) dX10_init_6 ?_
  refine g_eqv (.ref (n0 + 0)) (congrArg Value.ref z0) ?_
  refine g_gen (fun τ1 e1 => ?_)
  have z1 : τ1.2.1 = n0 + 1 := h_z1 (k := 0) e1 z0
  have y1 : τ1.2.2 = s0 + 4 := h_y1 (k := 0) e1 y0
  refine g_put (ft := (.array (.object "SortedMail$Entry"))) fX10_11 ptX10 (Or.inr ⟨rfl, rfl, rfl⟩) (h_nN e1 z0 (h_al (j := 0) hla) ha) (by decide +kernel) rfl rfl (Nat.le_of_ble_eq_true rfl) dX10_init_9 ?_
  refine g_gen (fun τ2 e2 => ?_)
  have z2 := h_z2 e2 z1
  have y2 := h_y2 e2 y1
  refine g_aload_n dX10_init_12 rfl (List.mem_of_getElem? (i := 0) rfl) ?_
  refine g_bipush (v := 40) dX10_init_13 (by decide) ?_
  refine g_anew (t0 := 7) (N := 40) rfl aX10_9 (fun U H hz => (hao U H hz).2.2.2.1) (by decide) (nI_clamp (n := 40) (by decide)) (by decide) (h_r1 (m := 1) z2 r1 (by decide)) (h_r2 (m := 4) y2 r2 (by decide)) dX10_init_15 ?_
  refine g_eqv (.ref (n0 + 1)) (congrArg Value.ref z2) ?_
  refine g_gen (fun τ3 e3 => ?_)
  have z3 : τ3.2.1 = n0 + 2 := h_z1 (k := 1) e3 z2
  have y3 : τ3.2.2 = s0 + 44 := h_y1 (k := 4) e3 y2
  refine g_put (ft := (.array (.object "SortedMail$Entry"))) fX10_15 ptX10 (Or.inr ⟨rfl, rfl, rfl⟩) (h_nN e3 z2 (h_al (j := 1) hla) (h_eS e2)) (by decide +kernel) rfl rfl (Nat.le_of_ble_eq_true rfl) dX10_init_18 ?_
  refine g_gen (fun τ4 e4 => ?_)
  have z4 := h_z2 e4 z3
  have y4 := h_y2 e4 y3
  refine g_aload_n dX10_init_21 rfl (List.mem_of_getElem? (i := 0) rfl) ?_
  refine g_new nX10_18 (h_r1 (m := 2) z4 r1 (by decide)) (h_r2 (m := 44) y4 r2 (by decide)) dX10_init_22 ?_
  refine g_eqv (.ref (n0 + 2)) (congrArg Value.ref z4) ?_
  refine g_gen (fun τ5 e5 => ?_)
  have z5 : τ5.2.1 = n0 + 3 := h_z1 (k := 2) e5 z4
  have y5 : τ5.2.2 = s0 + 50 := h_y1 (k := 44) e5 y4
  refine g_dup dX10_init_25 rfl ?_
  refine g_bipush (v := 6) dX10_init_26 (by decide) ?_
  refine g_bipush (v := 120) dX10_init_28 (by decide) ?_
  refine g_ci (d1 := 1) (As := [.int 6, .int 120]) (st := [.ref (n0 + 2), .ref a]) (ct_T_init hs.1 (by decide) (mo := 6) (by_ := 120) z5 y5 (h_eN e5 z4) (by decide) (h_r3 (m := 3) r1 (by decide)) (h_r4 (m := 50) (j := 132) r2 (by decide))) rfl kX9_init lX10_20 sX9_init (by omega) (Nat.le_of_ble_eq_true rfl) dX10_init_30 (fun τ30 v30 h30 z30 => ?_)
  obtain ⟨rfl, ⟨zz30, yy30, o30c⟩, q30a, q30b, q30c, q30d⟩ := h30
  have z30c : τ30.2.1 = n0 + 6 := h_z3 (k := 3) (j := 3) zz30 z5
  have y30c : τ30.2.2 = s0 + 182 := h_z3 (k := 50) (j := 132) yy30 y5
  show G _ _ _ _ _ _ _ _ _ _ 33 [(0, .ref a)] [.ref (n0 + 2), .ref a]
  refine g_put (ft := (.object "SortedMail$Texts")) fX10_23 ptX10 (Or.inr ⟨rfl, rfl, rfl⟩) ((o30c _ (h_al (j := 2) hla) (h_lo (m := 3) z5 hla)).trans (h_nN e5 z4 (h_al (j := 2) hla) (h_eS e4))) (by decide +kernel) rfl rfl (Nat.le_of_ble_eq_true rfl) dX10_init_33 ?_
  refine g_gen (fun τ6 e6 => ?_)
  have z6 := h_z2 e6 z30c
  have y6 := h_y2 e6 y30c
  refine g_aload_n dX10_init_36 rfl (List.mem_of_getElem? (i := 0) rfl) ?_
  refine g_get fX10_23 (h_eS e6) (v := .ref (n0 + 2)) rfl dX10_init_37 ?_
  refine g_ldcS (q := sq) (fun U H hz => hsk U H hz) dX10_init_40 ?_
  refine g_cv (d1 := 4) (As := [.ref sq]) (st := []) (ct_T_putText hs (by decide) (bs := IBX) hib (by decide) IBX_b (tx_0 (by_ := 120) (mo := 6) (h_nS e6 (h_ar (j := 2) hla) q30a) (h_nS e6 (h_ar (j := 3) hla) q30b) (h_nS e6 (h_ar (j := 4) hla) q30c) (h_nS e6 (h_ar (j := 5) hla) q30d) ⟨(h_ad (n := n0) (i := 4) (j := 5) (by decide)), (h_ad (n := n0) (i := 3) (j := 4) (by decide)), (h_ad (n := n0) (i := 3) (j := 5) (by decide))⟩ (by decide) (by decide))) (h_rcO (r := (RX9, TX9, 6)) (h_nS e6 (h_ar (j := 2) hla) q30a) rfl) kX9_putText lX10_29 sX9_putText (by omega) (Nat.le_of_ble_eq_true rfl) dX10_init_42 (fun τ42 v42 h42 z42 => ?_)
  obtain ⟨rfl, hx42, hf42⟩ := h42
  have z42f : τ42.2.1 = n0 + 6 := (congrArg Prod.fst hf42.2).trans z6
  have y42f : τ42.2.2 = s0 + 182 := (congrArg Prod.snd hf42.2).trans y6
  show G _ _ _ _ _ _ _ _ _ _ 45 [(0, .ref a)] []
  refine g_aload_n dX10_init_45 rfl (List.mem_of_getElem? (i := 0) rfl) ?_
  refine g_get fX10_23 ((hf42.1 _ (fun h => h.elim (h_al (j := 2) hla) (h_al (j := 3) hla))).trans (h_eS e6)) (v := .ref (n0 + 2)) rfl dX10_init_46 ?_
  refine g_cv (d1 := 0) (As := []) (st := []) (ct_T_close hs.1 hx42) (h_rcO (r := (RX9, TX9, 6)) hx42.1 rfl) kX9_close lX10_33 sX9_close (by omega) (Nat.le_of_ble_eq_true rfl) dX10_init_49 (fun τ49 v49 h49 z49 => ?_)
  obtain ⟨rfl, hx49, hf49⟩ := h49
  rw [if_pos (by decide)] at hx49
  have z49f : τ49.2.1 = n0 + 6 := (congrArg Prod.fst hf49.2).trans z42f
  have y49f : τ49.2.2 = s0 + 182 := (congrArg Prod.snd hf49.2).trans y42f
  show G _ _ _ _ _ _ _ _ _ _ 52 [(0, .ref a)] []
  exact g_vret rfl dX10_init_52 (⟨rfl, ⟨by rw [z49f, z0], by rw [y49f, y0], fun q h1 h2 => have hq9 : q < n0 := h_lq h2 z0; ((hf49.1 q (fun h => h.elim (h_al (j := 2) hq9) (fun h => h.elim (h_al (j := 4) hq9) (h_al (j := 5) hq9)))).trans ((hf42.1 q (fun h => h.elim (h_al (j := 2) hq9) (h_al (j := 3) hq9))).trans (h_nS e6 h1 ((o30c q (h_al (j := 2) hq9) (h_lo (m := 3) z5 hq9)).trans (h_nN e5 z4 (h_al (j := 2) hq9) (h_nS e4 h1 (h_nN e3 z2 (h_al (j := 1) hq9) (h_nS e2 h1 (h_nN e1 z0 (h_al (j := 0) hq9) rfl)))))))))⟩, ((hf49.1 _ (fun h => h.elim (h_al (j := 2) hla) (fun h => h.elim (h_al (j := 4) hla) (h_al (j := 5) hla)))).trans ((hf42.1 _ (fun h => h.elim (h_al (j := 2) hla) (h_al (j := 3) hla))).trans (h_eS e6))), ((hf49.1 _ (fun h => h.elim (h_ad (n := n0) (i := 0) (j := 2) (by decide)) (fun h => h.elim (h_ad (n := n0) (i := 0) (j := 4) (by decide)) (h_ad (n := n0) (i := 0) (j := 5) (by decide))))).trans ((hf42.1 _ (fun h => h.elim (h_ad (n := n0) (i := 0) (j := 2) (by decide)) (h_ad (n := n0) (i := 0) (j := 3) (by decide)))).trans (h_nS e6 (h_ar (j := 0) hla) ((o30c _ (h_ad (n := n0) (i := 0) (j := 2) (by decide)) (h_lk (i := 0) (m := 3) z5 (by decide))).trans (h_nN e5 z4 (h_ad (n := n0) (i := 0) (j := 2) (by decide)) (h_nS e4 (h_ar (j := 0) hla) (h_nN e3 z2 (h_ad (n := n0) (i := 0) (j := 1) (by decide)) (h_nS e2 (h_ar (j := 0) hla) (h_eN e1 z0))))))))), ((hf49.1 _ (fun h => h.elim (h_ad (n := n0) (i := 1) (j := 2) (by decide)) (fun h => h.elim (h_ad (n := n0) (i := 1) (j := 4) (by decide)) (h_ad (n := n0) (i := 1) (j := 5) (by decide))))).trans ((hf42.1 _ (fun h => h.elim (h_ad (n := n0) (i := 1) (j := 2) (by decide)) (h_ad (n := n0) (i := 1) (j := 3) (by decide)))).trans (h_nS e6 (h_ar (j := 1) hla) ((o30c _ (h_ad (n := n0) (i := 1) (j := 2) (by decide)) (h_lk (i := 1) (m := 3) z5 (by decide))).trans (h_nN e5 z4 (h_ad (n := n0) (i := 1) (j := 2) (by decide)) (h_nS e4 (h_ar (j := 1) hla) (h_eN e3 z2))))))), hx49⟩)
def ndF (m i : Nat) : Nat → Option Nat := fun j => if j < i then some (m + 3 * j) else none
theorem ndF_up (m i : Nat) : va_up (ndF m i) i (some (m + 3 * i)) = ndF m (i + 1) := by
  funext j
  unfold va_up ndF
  by_cases h : j = i
  · subst h; simp
  · by_cases h2 : j < i
    · rw [if_neg h, if_pos h2, if_pos (by omega)]
    · rw [if_neg h, if_neg h2, if_neg (by omega)]
/-- the nodes as they are made -/
def ndAt (A : Nat → ClassId) (σ : hS) (m i : Nat) : Prop := ∀ j : Nat, j < i → σ.1 (m + 3 * j) = some (.inr (3, [.int 0, .int 0, .int 0, .int 0, .int 0, .int 0, .int 0, .int 0, .int 0, .int 0, .int 0, .int 0, .int 0, .ref (m + 3 * j + 1), .ref (m + 3 * j + 2)])) ∧ σ.1 (m + 3 * j + 1) = some (.inl (A 0, 12, .inl (fun _ => 0))) ∧ σ.1 (m + 3 * j + 2) = some (.inl (A 0, 12, .inl (fun _ => 0)))
set_option maxRecDepth 100000 in
set_option maxHeartbeats 4000000 in
theorem ct_X4_loop {l : Launch} {D : va_G} {A : Nat → ClassId} {B : Nat} {Z : State → Heap → Prop} (hZ : h_st B Z) (hnw : ∀ (U : State) (H : Heap), Z U H → va_Nw (.methodLinkNest RX4 9 mX2_init.1 RX11) U ∧ va_Nw (.methodLinkNest RX4 29 mX3_init.1 RX11) U ∧ va_Nw (.methodLinkNest RX11 48 mX5_init.1 RX11) U ∧ va_Nw (.methodLinkNest RX11 49 mX8_init.1 RX11) U) {d : Nat} (hd1 : 2 ≤ d) {σ τ0 : hS} {P : hS → Option Value → Prop} {a lx nd sy ar m s1 : Nat} (hla : a < m) (hln : nd < m) (hne : a ≠ nd) (r1 : m + 960 ≤ B + 600000) (r2 : s1 + 12480 ≤ 7302250) (hP : ∀ τ : hS, τ.2.1 = m + 3 * 320 → τ.2.2 = s1 + 39 * 320 → τ.1 a = some (.inr (4, [.ref lx, .ref nd, .int 0, .ref sy, .ref ar, .int 0, .int 0, .int 0, .int 0])) → τ.1 nd = some (.inl (A 8, 320, .inr (.inr (.inr (.inr (ndF m 320)))))) → ndAt A τ m 320 → (∀ q : Nat, q < m → q ≠ nd → τ.1 q = τ0.1 q) → P τ none) :
  ∀ (n i : Nat) (τ : hS), 321 ≤ i + n → i ≤ 320 → τ.2.1 = m + 3 * i → τ.2.2 = s1 + 39 * i → τ.1 a = some (.inr (4, [.ref lx, .ref nd, .int 0, .ref sy, .ref ar, .int 0, .int 0, .int 0, .int 0])) → τ.1 nd = some (.inl (A 8, 320, .inr (.inr (.inr (.inr (ndF m i)))))) → ndAt A τ m i → (∀ q : Nat, q < m → q ≠ nd → τ.1 q = τ0.1 q) →
    G l D (h_ty A) B Z mX4_init d σ P τ 43 [(1, .int (nI i)), (0, .ref a)] [] := by
  have hCN : h_CN = 600000 := rfl
  have hCK : h_CK = 7302250 := rfl
  intro n
  induction n with
  | zero => intro i τ h1 h2; omega
  | succ n ih =>
    intro i τ h1 h2 hz hy ha hnf hnd hold
    refine g_iload_n dX4_init_43 rfl (List.mem_of_getElem? (i := 0) rfl) ?_
    refine g_sipush (v := 320) dX4_init_44 (by decide) ?_
    refine g_icmp_ge (tgt := 69) dX4_init_47 (by decide) (fun c47 => ?_) (fun c47 => ?_)
    · have c47 : i = 320 := by have := (nI_leI (a := 320) (b := i) (by decide) (by omega)).mp c47; omega
      subst c47
      exact g_vret rfl dX4_init_69 (hP τ hz hy ha hnf hnd hold)
    · have c47 : ¬ 320 ≤ i := fun x => c47 ((nI_leI (a := 320) (b := i) (by decide) (by omega)).mpr x)
      refine g_aload_n dX4_init_50 rfl (List.mem_of_getElem? (i := 1) rfl) ?_
      refine g_get fX4_18 ha (v := .ref nd) rfl dX4_init_51 ?_
      refine g_iload_n dX4_init_54 rfl (List.mem_of_getElem? (i := 0) rfl) ?_
      refine g_new nX4_16 (by omega) (by omega) dX4_init_55 ?_
      refine g_eqv (.ref (m + 3 * i)) (congrArg Value.ref hz) ?_
      refine g_gen (fun τ1 e1 => ?_)
      have z1 : τ1.2.1 = m + 3 * i + 1 := by rw [e1]; show _ + 1 = _; omega
      have y1 : τ1.2.2 = s1 + 39 * i + 15 := by rw [e1]; show _ + _ = _; omega
      refine g_dup dX4_init_58 rfl ?_
      refine g_cn (d1 := 1) (As := []) (st := [.ref (m + 3 * i), .int (nI i), .ref nd]) (ct_X3_init hZ (d := 1) (by omega) z1 y1 (h_eN e1 hz) (by omega) (by omega)) rfl kX3_init (fun U H hz => (hnw U H hz).2.1) sX3_init (by omega) (Nat.le_of_ble_eq_true rfl) dX4_init_59 (fun τ59 v59 h59 z59 => ?_)
      obtain ⟨rfl, ⟨zz, yy, oo⟩, qa, qb, qc⟩ := h59
      have zn : τ59.2.1 = m + 3 * (i + 1) := by omega
      have yn : τ59.2.2 = s1 + 39 * (i + 1) := by omega
      show G _ _ _ _ _ _ _ _ _ _ 62 [(1, .int (nI i)), (0, .ref a)] [.ref (m + 3 * i), .int (nI i), .ref nd]
      refine g_aast (t0 := 8) rfl ((oo _ (by omega) (by omega)).trans (h_nN e1 hz (by omega) hnf)) qa rfl (vp_in_nI (by omega) (by decide)) dX4_init_62 ?_
      refine g_gen (fun τ2 e2 => ?_)
      have z2 := h_z2 e2 zn
      have y2 := h_y2 e2 yn
      have zl := h_z2 e2 zn
      have yl := h_y2 e2 yn
      have el := e2
      refine g_iinc (v := nI (i + 1)) dX4_init_63 (k := 0) rfl (nI_1 i) (by decide) rfl ?_
      refine g_goto (tgt := 43) dX4_init_66 (by decide) ?_
      refine g_lv [0, 1] rfl ?_
      refine ih (i + 1) _ (by omega) (by omega) zl yl (h_nS el (by omega) ((oo _ (by omega) (by omega)).trans (h_nN e1 hz (by omega) ha))) ?_ ?_ ?_
      · rw [h_eS el, nI_clamp (by omega), ndF_up]
      · intro j hj
        by_cases hji : j = i
        · subst hji
          exact ⟨h_nS el (by omega) qa, h_nS el (by omega) qb, h_nS el (by omega) qc⟩
        · obtain ⟨k1, k2, k3⟩ := hnd j (by omega)
          exact ⟨h_nS el (by omega) ((oo _ (by omega) (by omega)).trans (h_nN e1 hz (by omega) k1)), h_nS el (by omega) ((oo _ (by omega) (by omega)).trans (h_nN e1 hz (by omega) k2)), h_nS el (by omega) ((oo _ (by omega) (by omega)).trans (h_nN e1 hz (by omega) k3))⟩
      · intro q h5 h6
        exact h_nS el h6 ((oo _ (by omega) (by omega)).trans (h_nN e1 hz (by omega) (hold q h5 h6)))
set_option maxRecDepth 100000 in
set_option maxHeartbeats 4000000 in
/-- Parser() -/
theorem ct_X4_init {l : Launch} {D : va_G} {A : Nat → ClassId} {B : Nat} {Z : State → Heap → Prop} (hZ : h_st B Z) (hao : ∀ (U : State) (H : Heap), Z U H → va_AO RX5 U ∧ va_AO RX8 U ∧ va_AO RX10 U ∧ va_AO RX1 U ∧ va_AO RX3 U) (hnw : ∀ (U : State) (H : Heap), Z U H → va_Nw (.methodLinkNest RX4 9 mX2_init.1 RX11) U ∧ va_Nw (.methodLinkNest RX4 29 mX3_init.1 RX11) U ∧ va_Nw (.methodLinkNest RX11 48 mX5_init.1 RX11) U ∧ va_Nw (.methodLinkNest RX11 49 mX8_init.1 RX11) U) {d : Nat} (hd1 : 3 ≤ d) {σ : hS} {a n0 s0 : Nat} (z0 : σ.2.1 = n0) (y0 : σ.2.2 = s0) (ha : σ.1 a = some (.inr (4, [.null, .null, .int 0, .null, .null, .int 0, .int 0, .int 0, .int 0]))) (r1 : n0 + 969 ≤ B + 600000) (r2 : s0 + 15657 ≤ 7302250) : Ct l D (h_ty A) B Z d mX4_init σ [.ref a] (fun σ1 v => v = none ∧ cgr σ σ1 a 969 15657 ∧ σ1.1 a = some (.inr (4, [.ref (n0 + 0), .ref (n0 + 6), .int 0, .ref (n0 + 7), .ref (n0 + 8), .int 0, .int 0, .int 0, .int 0])) ∧ σ1.1 (n0 + 6) = some (.inl (A 8, 320, .inr (.inr (.inr (.inr (ndF (n0 + 9) 320)))))) ∧ σ1.1 (n0 + 0) = some (.inr (2, [.ref (n0 + 1), .ref (n0 + 5), .int 0, .int 0, .int 0, .int 0, .int 0, .int 0, .int 0])) ∧ σ1.1 (n0 + 1) = some (.inr (9, [.ref (n0 + 2), .ref (n0 + 3), .ref (n0 + 4), .int 0, .int 0, .int 0])) ∧ σ1.1 (n0 + 2) = some (.inl (A 1, 2000, .inl (fun _ => 0))) ∧ σ1.1 (n0 + 3) = some (.inl (A 0, 301, .inl (fun _ => 0))) ∧ σ1.1 (n0 + 4) = some (.inl (A 0, 301, .inl (fun _ => 0))) ∧ σ1.1 (n0 + 5) = some (.inl (A 1, 0, .inl (fun _ => 0))) ∧ σ1.1 (n0 + 7) = some (.inl (A 0, 120, .inl (fun _ => 0))) ∧ σ1.1 (n0 + 8) = some (.inl (A 0, 120, .inl (fun _ => 0))) ∧ ndAt A σ1 (n0 + 9) 320) := by
  refine ct_of rfl hZ (Nat.le_of_ble_eq_true rfl) ?_
  show G _ _ _ _ _ _ _ _ _ _ 0 [(0, .ref a)] []
  refine g_bd (fun hB1 hB2 hB3 hlt => ?_)
  have hla : a < n0 := h_lq (hlt a _ ha) z0
  refine g_aload_n dX4_init_0 rfl (List.mem_of_getElem? (i := 0) rfl) ?_
  refine g_obj lX4_1 h_oi h_oc (by omega) (Nat.le_of_ble_eq_true rfl) dX4_init_1 ?_
  refine g_aload_n dX4_init_4 rfl (List.mem_of_getElem? (i := 0) rfl) ?_
  refine g_new nX4_7 (h_r1 (m := 0) z0 r1 (by decide)) (h_r2 (m := 0) y0 r2 (by decide)) dX4_init_5 ?_
  refine g_eqv (.ref (n0 + 0)) (congrArg Value.ref z0) ?_
  refine g_gen (fun τ1 e1 => ?_)
  have z1 : τ1.2.1 = n0 + 1 := h_z1 (k := 0) e1 z0
  have y1 : τ1.2.2 = s0 + 9 := h_y1 (k := 0) e1 y0
  refine g_dup dX4_init_8 rfl ?_
  refine g_cn (d1 := 2) (As := []) (st := [.ref (n0 + 0), .ref a]) (ct_X2_init hZ (by decide) z1 y1 (h_eN e1 z0) (h_r3 (m := 1) r1 (by decide)) (h_r4 (m := 9) r2 (by decide))) rfl kX2_init (fun U H hz => (hnw U H hz).1) sX2_init (by omega) (Nat.le_of_ble_eq_true rfl) dX4_init_9 (fun τ9 v9 h9 z9 => ?_)
  obtain ⟨rfl, ⟨zz9_0, yy9_0, oc9_0⟩, q9_0, q9_1, q9_2, q9_3, q9_4, q9_5⟩ := h9
  have zc9_0 : τ9.2.1 = n0 + 6 := h_z3 (k := 1) (j := 5) zz9_0 z1
  have yc9_0 : τ9.2.2 = s0 + 2617 := h_z3 (k := 9) (j := 2608) yy9_0 y1
  show G _ _ _ _ _ _ _ _ _ _ 12 [(0, .ref a)] [.ref (n0 + 0), .ref a]
  refine g_put (ft := (.object "SortedMail$Lexer")) fX4_10 ptX4 (Or.inr ⟨rfl, rfl, rfl⟩) ((oc9_0 _ (h_al (j := 0) hla) (h_lo (m := 1) z1 hla)).trans (h_nN e1 z0 (h_al (j := 0) hla) ha)) (by decide +kernel) rfl rfl (Nat.le_of_ble_eq_true rfl) dX4_init_12 ?_
  refine g_gen (fun τ2 e2 => ?_)
  have z2 := h_z2 e2 zc9_0
  have y2 := h_y2 e2 yc9_0
  refine g_aload_n dX4_init_15 rfl (List.mem_of_getElem? (i := 0) rfl) ?_
  refine g_sipush (v := 320) dX4_init_16 (by decide) ?_
  refine g_anew (t0 := 8) (N := 320) rfl aX4_16 (fun U H hz => (hao U H hz).2.2.2.2) (by decide) (nI_clamp (n := 320) (by decide)) (by decide) (h_r1 (m := 6) z2 r1 (by decide)) (h_r2 (m := 2617) y2 r2 (by decide)) dX4_init_19 ?_
  refine g_eqv (.ref (n0 + 6)) (congrArg Value.ref z2) ?_
  refine g_gen (fun τ3 e3 => ?_)
  have z3 : τ3.2.1 = n0 + 7 := h_z1 (k := 6) e3 z2
  have y3 : τ3.2.2 = s0 + 2937 := h_y1 (k := 2617) e3 y2
  refine g_put (ft := (.array (.object "SortedMail$Node"))) fX4_18 ptX4 (Or.inr ⟨rfl, rfl, rfl⟩) (h_nN e3 z2 (h_al (j := 6) hla) (h_eS e2)) (by decide +kernel) rfl rfl (Nat.le_of_ble_eq_true rfl) dX4_init_22 ?_
  refine g_gen (fun τ4 e4 => ?_)
  have z4 := h_z2 e4 z3
  have y4 := h_y2 e4 y3
  refine g_aload_n dX4_init_25 rfl (List.mem_of_getElem? (i := 0) rfl) ?_
  refine g_bipush (v := 120) dX4_init_26 (by decide) ?_
  refine g_newa (t0 := 0) (N := 120) (f := .inl (fun _ => 0)) rfl rfl (fun _ h => h) ac_int hv_int (by decide) (nI_clamp (n := 120) (by decide)) (by decide) (h_r1 (m := 7) z4 r1 (by decide)) (h_r2 (m := 2937) y4 r2 (by decide)) dX4_init_28 ?_
  refine g_eqv (.ref (n0 + 7)) (congrArg Value.ref z4) ?_
  refine g_gen (fun τ5 e5 => ?_)
  have z5 : τ5.2.1 = n0 + 8 := h_z1 (k := 7) e5 z4
  have y5 : τ5.2.2 = s0 + 3057 := h_y1 (k := 2937) e5 y4
  refine g_put (ft := (.array .int)) fX4_22 ptX4 (Or.inr ⟨rfl, rfl, rfl⟩) (h_nN e5 z4 (h_al (j := 7) hla) (h_eS e4)) (by decide +kernel) rfl rfl (Nat.le_of_ble_eq_true rfl) dX4_init_30 ?_
  refine g_gen (fun τ6 e6 => ?_)
  have z6 := h_z2 e6 z5
  have y6 := h_y2 e6 y5
  refine g_aload_n dX4_init_33 rfl (List.mem_of_getElem? (i := 0) rfl) ?_
  refine g_bipush (v := 120) dX4_init_34 (by decide) ?_
  refine g_newa (t0 := 0) (N := 120) (f := .inl (fun _ => 0)) rfl rfl (fun _ h => h) ac_int hv_int (by decide) (nI_clamp (n := 120) (by decide)) (by decide) (h_r1 (m := 8) z6 r1 (by decide)) (h_r2 (m := 3057) y6 r2 (by decide)) dX4_init_36 ?_
  refine g_eqv (.ref (n0 + 8)) (congrArg Value.ref z6) ?_
  refine g_gen (fun τ7 e7 => ?_)
  have z7 : τ7.2.1 = n0 + 9 := h_z1 (k := 8) e7 z6
  have y7 : τ7.2.2 = s0 + 3177 := h_y1 (k := 3057) e7 y6
  refine g_put (ft := (.array .int)) fX4_26 ptX4 (Or.inr ⟨rfl, rfl, rfl⟩) (h_nN e7 z6 (h_al (j := 8) hla) (h_eS e6)) (by decide +kernel) rfl rfl (Nat.le_of_ble_eq_true rfl) dX4_init_38 ?_
  refine g_gen (fun τ8 e8 => ?_)
  have z8 := h_z2 e8 z7
  have y8 := h_y2 e8 y7
  refine g_iconst (v := 0) dX4_init_41 (by decide) ?_
  refine g_istore_n dX4_init_42 rfl (by decide) rfl ?_
  refine ct_X4_loop hZ hnw (d := d) (a := a) (nd := n0 + 6) (lx := n0 + 0) (sy := n0 + 7) (ar := n0 + 8) (m := n0 + 9) (s1 := s0 + 3177) (τ0 := τ8) (by omega) (Nat.lt_of_lt_of_le hla (Nat.le_add_right _ _)) (Nat.add_lt_add_left (by decide) n0) (h_al hla) (by omega) (by omega) (fun τ h1 h2 h3 h4 h5 h6 => ?_) 321 0 τ8 (by decide) (by decide) z8 y8 (h_eS e8) ?_ (fun j hj => absurd hj (Nat.not_lt_zero j)) (fun _ _ _ => rfl)
  · refine ⟨rfl, ⟨by rw [h1, z0], by rw [h2, y0], fun q h1 h2 => have hq9 : q < n0 := h_lq h2 z0; (h6 q (by omega) (h_al hq9)).trans (h_nS e8 h1 (h_nN e7 z6 (h_al (j := 8) hq9) (h_nS e6 h1 (h_nN e5 z4 (h_al (j := 7) hq9) (h_nS e4 h1 (h_nN e3 z2 (h_al (j := 6) hq9) (h_nS e2 h1 ((oc9_0 q (h_al (j := 0) hq9) (h_lo (m := 1) z1 hq9)).trans (h_nN e1 z0 (h_al (j := 0) hq9) rfl)))))))))⟩, h3, h4, (h6 _ (Nat.add_lt_add_left (by decide) n0) (h_ad (by decide))).trans (h_nS e8 (h_ar (j := 0) hla) (h_nN e7 z6 (h_ad (n := n0) (i := 0) (j := 8) (by decide)) (h_nS e6 (h_ar (j := 0) hla) (h_nN e5 z4 (h_ad (n := n0) (i := 0) (j := 7) (by decide)) (h_nS e4 (h_ar (j := 0) hla) (h_nN e3 z2 (h_ad (n := n0) (i := 0) (j := 6) (by decide)) (h_nS e2 (h_ar (j := 0) hla) q9_0))))))), (h6 _ (Nat.add_lt_add_left (by decide) n0) (h_ad (by decide))).trans (h_nS e8 (h_ar (j := 1) hla) (h_nN e7 z6 (h_ad (n := n0) (i := 1) (j := 8) (by decide)) (h_nS e6 (h_ar (j := 1) hla) (h_nN e5 z4 (h_ad (n := n0) (i := 1) (j := 7) (by decide)) (h_nS e4 (h_ar (j := 1) hla) (h_nN e3 z2 (h_ad (n := n0) (i := 1) (j := 6) (by decide)) (h_nS e2 (h_ar (j := 1) hla) q9_1))))))), (h6 _ (Nat.add_lt_add_left (by decide) n0) (h_ad (by decide))).trans (h_nS e8 (h_ar (j := 2) hla) (h_nN e7 z6 (h_ad (n := n0) (i := 2) (j := 8) (by decide)) (h_nS e6 (h_ar (j := 2) hla) (h_nN e5 z4 (h_ad (n := n0) (i := 2) (j := 7) (by decide)) (h_nS e4 (h_ar (j := 2) hla) (h_nN e3 z2 (h_ad (n := n0) (i := 2) (j := 6) (by decide)) (h_nS e2 (h_ar (j := 2) hla) q9_2))))))), (h6 _ (Nat.add_lt_add_left (by decide) n0) (h_ad (by decide))).trans (h_nS e8 (h_ar (j := 3) hla) (h_nN e7 z6 (h_ad (n := n0) (i := 3) (j := 8) (by decide)) (h_nS e6 (h_ar (j := 3) hla) (h_nN e5 z4 (h_ad (n := n0) (i := 3) (j := 7) (by decide)) (h_nS e4 (h_ar (j := 3) hla) (h_nN e3 z2 (h_ad (n := n0) (i := 3) (j := 6) (by decide)) (h_nS e2 (h_ar (j := 3) hla) q9_3))))))), (h6 _ (Nat.add_lt_add_left (by decide) n0) (h_ad (by decide))).trans (h_nS e8 (h_ar (j := 4) hla) (h_nN e7 z6 (h_ad (n := n0) (i := 4) (j := 8) (by decide)) (h_nS e6 (h_ar (j := 4) hla) (h_nN e5 z4 (h_ad (n := n0) (i := 4) (j := 7) (by decide)) (h_nS e4 (h_ar (j := 4) hla) (h_nN e3 z2 (h_ad (n := n0) (i := 4) (j := 6) (by decide)) (h_nS e2 (h_ar (j := 4) hla) q9_4))))))), (h6 _ (Nat.add_lt_add_left (by decide) n0) (h_ad (by decide))).trans (h_nS e8 (h_ar (j := 5) hla) (h_nN e7 z6 (h_ad (n := n0) (i := 5) (j := 8) (by decide)) (h_nS e6 (h_ar (j := 5) hla) (h_nN e5 z4 (h_ad (n := n0) (i := 5) (j := 7) (by decide)) (h_nS e4 (h_ar (j := 5) hla) (h_nN e3 z2 (h_ad (n := n0) (i := 5) (j := 6) (by decide)) (h_nS e2 (h_ar (j := 5) hla) q9_5))))))), (h6 _ (Nat.add_lt_add_left (by decide) n0) (h_ad (by decide))).trans (h_nS e8 (h_ar (j := 7) hla) (h_nN e7 z6 (h_ad (n := n0) (i := 7) (j := 8) (by decide)) (h_nS e6 (h_ar (j := 7) hla) (h_eN e5 z4)))), (h6 _ (Nat.add_lt_add_left (by decide) n0) (h_ad (by decide))).trans (h_nS e8 (h_ar (j := 8) hla) (h_eN e7 z6)), h5⟩
  · rw [(h_nS e8 (h_ar (j := 6) hla) (h_nN e7 z6 (h_ad (n := n0) (i := 6) (j := 8) (by decide)) (h_nS e6 (h_ar (j := 6) hla) (h_nN e5 z4 (h_ad (n := n0) (i := 6) (j := 7) (by decide)) (h_nS e4 (h_ar (j := 6) hla) (h_eN e3 z2))))))]; rfl
