set_option maxRecDepth 100000 in
set_option maxHeartbeats 4000000 in
/-- the law makes its two objects -/
theorem law_make {l : Launch} {D : va_G} {A : Nat → ClassId} {B : Nat} {Z : State → Heap → Prop} {vF : Value} (hs : zs B Z vF) (hao : ∀ (U : State) (H : Heap), Z U H → va_AO RX5 U ∧ va_AO RX8 U ∧ va_AO RX10 U ∧ va_AO RX1 U ∧ va_AO RX3 U) (hnw : ∀ (U : State) (H : Heap), Z U H → va_Nw (.methodLinkNest RX4 9 mX2_init.1 RX11) U ∧ va_Nw (.methodLinkNest RX4 29 mX3_init.1 RX11) U ∧ va_Nw (.methodLinkNest RX11 48 mX5_init.1 RX11) U ∧ va_Nw (.methodLinkNest RX11 49 mX8_init.1 RX11) U) {q3 w3 q4 w4 : Nat} (hk3 : ∀ (U : State) (H : Heap), Z U H → vk_R RX10 27 "INBOX" q3 U) (hc3 : sC B Z q3 w3 IBX) (hk4 : ∀ (U : State) (H : Heap), Z U H → vk_R RX12 1387 "INBOX" q4 U) (hc4 : sC B Z q4 w4 IBX) {nm : String} {d b : Nat} {σ0 : hS} {P : hS → Option Value → Prop} (hd : 10 ≤ d) (s0 : σ0 = (fun _ => none, B, 0))
    (hk : ∀ σ : hS, frI A B (B + 1) (B + 1079) (B + 1080) σ → σ.2.1 = B + 1171 → σ.2.2 = 325232 → G l D (h_ty A) B Z (mL_law nm) d σ0 P σ 18 [(3, .int (nI 0)), (0, .ref b), (1, .ref B), (2, .ref (B + 1079))] []) : G l D (h_ty A) B Z (mL_law nm) d σ0 P σ0 0 [(0, .ref b)] [] := by
  subst s0
  refine g_new nL_7 (by show B + 1 ≤ B + 600000; omega) (by show 0 + 17 ≤ 7302250; decide) dL_law_0 ?_
  refine g_dup dL_law_3 rfl ?_
  refine g_ci (d1 := 6) (As := []) (st := [.ref B]) (ct_X11_init hs hao hnw hk3 hc3 (Nat.le_refl _) (a := B) (n0 := B + 1) (s0 := 17) rfl rfl h_ne (by omega) (by decide)) rfl kX11_init lL_9 sX11_init (by omega) (Nat.le_of_ble_eq_true rfl) dL_law_4 (fun τ v h1 z1 => ?_)
  obtain ⟨rfl, hg, hn⟩ := h1
  have hz : τ.2.1 = B + 1079 := hg.1.trans (by show B + 1 + 1078 = _; omega)
  have hy : τ.2.2 = 127345 := hg.2.1
  refine g_astore_n (lv' := [(1, .ref B), (0, .ref b)]) dL_law_7 rfl (show 1 < 4 by decide) rfl ?_
  refine g_new nL_10 (by rw [hz]; show B + 1079 + 1 ≤ B + 600000; omega) (by rw [hy]; decide) dL_law_8 ?_
  refine g_eqv (.ref (B + 1079)) (congrArg Value.ref hz) ?_
  refine g_dup dL_law_11 rfl ?_
  refine g_ci (d1 := 6) (As := []) (st := [.ref (B + 1079)]) (ct_X12_init hs hk4 hc4 (by decide) (a := B + 1079) (n0 := B + 1080) (s0 := 127498) (by show τ.2.1 + 1 = _; omega) (by show τ.2.2 + 153 = _; omega) (by rw [← hz]; exact h_ne) (by omega) (by decide)) rfl kX12_init lL_12 sX12_init (by omega) (Nat.le_of_ble_eq_true rfl) dL_law_12 (fun τ2 v h2 z2 => ?_)
  obtain ⟨rfl, hg2, hm⟩ := h2
  refine g_astore_n (lv' := [(2, .ref (B + 1079)), (1, .ref B), (0, .ref b)]) dL_law_15 rfl (show 2 < 4 by decide) rfl ?_
  refine g_iconst (v := 0) dL_law_16 (by decide) ?_
  refine g_istore_n (lv' := [(3, .int (nI 0)), (2, .ref (B + 1079)), (1, .ref B), (0, .ref b)]) dL_law_17 rfl (show 3 < 4 by decide) rfl ?_
  refine g_lv [0, 3, 2, 1] rfl ?_
  have hq : ∀ q : Nat, q < B + 1079 → τ2.1 q = τ.1 q := fun q h => (hg2.2.2 q (by omega) (by show q < τ.2.1 + 1; omega)).trans (if_neg (by omega))
  exact hk τ2 ⟨smNew_cg hn (hq _ (by omega)) (fun k hk => hq _ (by omega)), hm, by omega, by omega, by omega⟩ (hg2.1.trans (by show τ.2.1 + 1 + 91 = _; omega)) (hg2.2.1.trans (by show τ.2.2 + 153 + 197734 = _; omega))
set_option maxRecDepth 100000 in
set_option maxHeartbeats 4000000 in
/-- the law's end -/
theorem law_exit {l : Launch} {D : va_G} {A : Nat → ClassId} {B : Nat} {Z : State → Heap → Prop} (hZ : h_st B Z) {nm : String} {d ax am b L : Nat} {xs : Nat → Int32} {σ0 : hS} {P : hS → Option Value → Prop} (hX : ∀ (U : State) (H : Heap), Z U H → va_X b L xs U H) (hL : L ≤ 3072) (hP : ∀ σ : hS, P σ (some (.int 1))) {i : Nat} (hi : L < i + 6) (hi0 : i ≤ 4000) {σ : hS} : G l D (h_ty A) B Z (mL_law nm) d σ0 P σ 18 [(3, .int (nI i)), (0, .ref b), (1, .ref ax), (2, .ref am)] [] := by
  refine g_iload_n dL_law_18 rfl (List.mem_of_getElem? (i := 0) rfl) ?_
  refine g_aload_n dL_law_19 rfl (List.mem_of_getElem? (i := 1) rfl) ?_
  refine g_slen hX dL_law_20 ?_
  refine g_bipush (v := 6) dL_law_21 (by decide) ?_
  refine g_isub dL_law_23 ?_
  refine g_icmp_gt (tgt := 498) dL_law_24 (by decide) (fun c24 => ?_) (fun c24 => absurd (by rw [Int32.lt_iff_toInt_lt, show nI L - 6 = nI L - nI 6 from rfl, pk_sub_toInt (by omega) (by decide), nI_toInt (by omega)]; omega) c24)
  refine g_iconst (v := 1) dL_law_498 (by decide) ?_
  exact g_zret rfl rfl dL_law_499 (hP _)
set_option maxRecDepth 100000 in
set_option maxHeartbeats 4000000 in
/-- the constants that one call needs -/
theorem l_con {s : State} {args : Array Value} (hts : ∀ w ∈ lw_tbl, w.before args s = true) (hn : narrow_1.before args s = true) : (∃ vF : Value, zs s.heap.size (Zc s s.heap.size) vF) ∧ (∀ (U : State) (H : Heap), Zc s s.heap.size U H → va_AO RX5 U ∧ va_AO RX8 U ∧ va_AO RX10 U ∧ va_AO RX1 U ∧ va_AO RX3 U) ∧ (∀ (U : State) (H : Heap), Zc s s.heap.size U H → va_Nw (.methodLinkNest RX4 9 mX2_init.1 RX11) U ∧ va_Nw (.methodLinkNest RX4 29 mX3_init.1 RX11) U ∧ va_Nw (.methodLinkNest RX11 48 mX5_init.1 RX11) U ∧ va_Nw (.methodLinkNest RX11 49 mX8_init.1 RX11) U) ∧
    (∃ q w : Nat, (∀ (U : State) (H : Heap), Zc s s.heap.size U H → vk_R RX0 39 "220 here LMTP" q U) ∧ sC s.heap.size (Zc s s.heap.size) q w S220) ∧ (∃ q w : Nat, (∀ (U : State) (H : Heap), Zc s s.heap.size U H → vk_R RX12 1027 "220 here LMTP" q U) ∧ sC s.heap.size (Zc s s.heap.size) q w S220) ∧ (∃ q w : Nat, (∀ (U : State) (H : Heap), Zc s s.heap.size U H → vk_R RX10 27 "INBOX" q U) ∧ sC s.heap.size (Zc s s.heap.size) q w IBX) ∧ (∃ q w : Nat, (∀ (U : State) (H : Heap), Zc s s.heap.size U H → vk_R RX12 1387 "INBOX" q U) ∧ sC s.heap.size (Zc s s.heap.size) q w IBX) := by
  have hA : ∀ a : Nat, a < s.heap.size → ¬ (fun q : Nat => s.heap.size ≤ q) a := fun a h => Nat.not_le.mpr h
  have hf := flat_of_before _ hn
  have c1 : va_Z "java/lang/String" "COMPACT_STRINGS" "Z" (.int 1) (fun q : Nat => s.heap.size ≤ q) s s.heap := va_Zof (hts _ (w_t2 85 rfl)) (hts _ (w_t1 9 rfl)) (va_eqt (hf (.eq (.static "java/lang/String" "COMPACT_STRINGS" "Z") (.int 1)) (List.mem_of_getElem? (i := 2) (by decide +kernel)))) hA
  have c2 : ∃ vF : Value, (vF = .null ∨ ∃ r, vF = .ref r) ∧ va_Z "jdk/internal/util/Preconditions" "SIOOBE_FORMATTER" "Ljava/util/function/BiFunction;" vF (fun q : Nat => s.heap.size ≤ q) s s.heap := by
    rcases va_Zqof (hts _ (w_t2 101 rfl)) (hts _ (w_t1 11 rfl)) (hf (.isRef (.static "jdk/internal/util/Preconditions" "SIOOBE_FORMATTER" "Ljava/util/function/BiFunction;")) (List.mem_of_getElem? (i := 3) (by decide +kernel))) hA with h | ⟨t, h⟩
    · exact ⟨_, Or.inl rfl, h⟩
    · exact ⟨_, Or.inr ⟨t, rfl⟩, h⟩
  obtain ⟨vF, v1, v2⟩ := c2
  refine ⟨⟨vF, Zc.st, Zc.get st_Z c1, Zc.get st_Z v2, v1⟩, fun U H hz => ⟨Zc.get st_AO (va_AO.of (hts _ (w_t1 31 rfl))) U H hz, Zc.get st_AO (va_AO.of (hts _ (w_t1 33 rfl))) U H hz, Zc.get st_AO (va_AO.of (hts _ (w_t1 35 rfl))) U H hz, Zc.get st_AO (va_AO.of (hts _ (w_t1 37 rfl))) U H hz, Zc.get st_AO (va_AO.of (hts _ (w_t1 145 rfl))) U H hz⟩, fun U H hz => ⟨Zc.get st_Nw (va_Nw.of rfl (hts _ (w_t1 46 rfl))) U H hz, Zc.get st_Nw (va_Nw.of rfl (hts _ (w_t1 147 rfl))) U H hz, Zc.get st_Nw (va_Nw.of rfl (hts _ (w_t2 15 rfl))) U H hz, Zc.get st_Nw (va_Nw.of rfl (hts _ (w_t2 30 rfl))) U H hz⟩, sC_of (i := 141) hn (by decide +kernel) (by decide) (hts _ (w_t3 155 rfl)), sC_of (i := 1621) hn (by decide +kernel) (by decide) (hts _ (w_t7 232 rfl)), sC_of (i := 132) hn (by decide +kernel) (by decide) (hts _ (w_t2 71 rfl)), sC_of (i := 3243) hn (by decide +kernel) (by decide) (hts _ (w_t11 200 rfl))⟩

